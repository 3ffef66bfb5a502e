theorem dX12_init_0 : decode cX12_init 0 = .ok (.aload_n 0, 1) := by decide +kernel
theorem dX12_init_1 : decode cX12_init 1 = .ok (.invokespecial 3, 3) := by decide +kernel
theorem dX12_init_4 : decode cX12_init 4 = .ok (.aload_n 0, 1) := by decide +kernel
theorem dX12_init_5 : decode cX12_init 5 = .ok (.iload_n 1, 1) := by decide +kernel
theorem dX12_init_6 : decode cX12_init 6 = .ok (.putfield 9, 3) := by decide +kernel
theorem dX12_init_9 : decode cX12_init 9 = .ok (.aload_n 0, 1) := by decide +kernel
theorem dX12_init_10 : decode cX12_init 10 = .ok (.iload_n 2, 1) := by decide +kernel
theorem dX12_init_11 : decode cX12_init 11 = .ok (.putfield 15, 3) := by decide +kernel
theorem dX12_init_14 : decode cX12_init 14 = .ok (.aload_n 0, 1) := by decide +kernel
theorem dX12_init_15 : decode cX12_init 15 = .ok (.iload_n 3, 1) := by decide +kernel
theorem dX12_init_16 : decode cX12_init 16 = .ok (.putfield 18, 3) := by decide +kernel
theorem dX12_init_19 : decode cX12_init 19 = .ok (.aload_n 0, 1) := by decide +kernel
theorem dX12_init_20 : decode cX12_init 20 = .ok (.aload 4, 2) := by decide +kernel
theorem dX12_init_22 : decode cX12_init 22 = .ok (.putfield 21, 3) := by decide +kernel
theorem dX12_init_25 : decode cX12_init 25 = .ok (.return_, 1) := by decide +kernel
theorem dX12_filled_0 : decode cX12_filled 0 = .ok (.aload_n 0, 1) := by decide +kernel
theorem dX12_filled_1 : decode cX12_filled 1 = .ok (.arraylength, 1) := by decide +kernel
theorem dX12_filled_2 : decode cX12_filled 2 = .ok (.iload_n 1, 1) := by decide +kernel
theorem dX12_filled_3 : decode cX12_filled 3 = .ok (.iadd, 1) := by decide +kernel
theorem dX12_filled_4 : decode cX12_filled 4 = .ok (.iconst 1, 1) := by decide +kernel
theorem dX12_filled_5 : decode cX12_filled 5 = .ok (.isub, 1) := by decide +kernel
theorem dX12_filled_6 : decode cX12_filled 6 = .ok (.iload_n 1, 1) := by decide +kernel
theorem dX12_filled_7 : decode cX12_filled 7 = .ok (.idiv, 1) := by decide +kernel
theorem dX12_filled_8 : decode cX12_filled 8 = .ok (.iload_n 1, 1) := by decide +kernel
theorem dX12_filled_9 : decode cX12_filled 9 = .ok (.imul, 1) := by decide +kernel
theorem dX12_filled_10 : decode cX12_filled 10 = .ok (.newarray .int, 2) := by decide +kernel
theorem dX12_filled_12 : decode cX12_filled 12 = .ok (.astore_n 2, 1) := by decide +kernel
theorem dX12_filled_13 : decode cX12_filled 13 = .ok (.aload_n 0, 1) := by decide +kernel
theorem dX12_filled_14 : decode cX12_filled 14 = .ok (.iconst 0, 1) := by decide +kernel
theorem dX12_filled_15 : decode cX12_filled 15 = .ok (.aload_n 2, 1) := by decide +kernel
theorem dX12_filled_16 : decode cX12_filled 16 = .ok (.iconst 0, 1) := by decide +kernel
theorem dX12_filled_17 : decode cX12_filled 17 = .ok (.aload_n 0, 1) := by decide +kernel
theorem dX12_filled_18 : decode cX12_filled 18 = .ok (.arraylength, 1) := by decide +kernel
theorem dX12_filled_19 : decode cX12_filled 19 = .ok (.invokestatic 25, 3) := by decide +kernel
theorem dX12_filled_22 : decode cX12_filled 22 = .ok (.aload_n 2, 1) := by decide +kernel
theorem dX12_filled_23 : decode cX12_filled 23 = .ok (.areturn, 1) := by decide +kernel
theorem dX12_lay_0 : decode cX12_lay 0 = .ok (.iconst 0, 1) := by decide +kernel
theorem dX12_lay_1 : decode cX12_lay 1 = .ok (.istore 4, 2) := by decide +kernel
theorem dX12_lay_3 : decode cX12_lay 3 = .ok (.iload 4, 2) := by decide +kernel
theorem dX12_lay_5 : decode cX12_lay 5 = .ok (.iload_n 3, 1) := by decide +kernel
theorem dX12_lay_6 : decode cX12_lay 6 = .ok (.if_icmp .ge 25, 3) := by decide +kernel
theorem dX12_lay_9 : decode cX12_lay 9 = .ok (.aload_n 1, 1) := by decide +kernel
theorem dX12_lay_10 : decode cX12_lay 10 = .ok (.iload_n 2, 1) := by decide +kernel
theorem dX12_lay_11 : decode cX12_lay 11 = .ok (.iload 4, 2) := by decide +kernel
theorem dX12_lay_13 : decode cX12_lay 13 = .ok (.iadd, 1) := by decide +kernel
theorem dX12_lay_14 : decode cX12_lay 14 = .ok (.iload_n 0, 1) := by decide +kernel
theorem dX12_lay_15 : decode cX12_lay 15 = .ok (.iload_n 3, 1) := by decide +kernel
theorem dX12_lay_16 : decode cX12_lay 16 = .ok (.iconst 1, 1) := by decide +kernel
theorem dX12_lay_17 : decode cX12_lay 17 = .ok (.isub, 1) := by decide +kernel
theorem dX12_lay_18 : decode cX12_lay 18 = .ok (.iload 4, 2) := by decide +kernel
theorem dX12_lay_20 : decode cX12_lay 20 = .ok (.isub, 1) := by decide +kernel
theorem dX12_lay_21 : decode cX12_lay 21 = .ok (.ishr, 1) := by decide +kernel
theorem dX12_lay_22 : decode cX12_lay 22 = .ok (.iconst 1, 1) := by decide +kernel
theorem dX12_lay_23 : decode cX12_lay 23 = .ok (.iand, 1) := by decide +kernel
theorem dX12_lay_24 : decode cX12_lay 24 = .ok (.iastore, 1) := by decide +kernel
theorem dX12_lay_25 : decode cX12_lay 25 = .ok (.iinc 4 1, 3) := by decide +kernel
theorem dX12_lay_28 : decode cX12_lay 28 = .ok (.goto (-25), 3) := by decide +kernel
theorem dX12_lay_31 : decode cX12_lay 31 = .ok (.return_, 1) := by decide +kernel
theorem dX12_code_0 : decode cX12_code 0 = .ok (.aload_n 0, 1) := by decide +kernel
theorem dX12_code_1 : decode cX12_code 1 = .ok (.getfield 9, 3) := by decide +kernel
theorem dX12_code_4 : decode cX12_code 4 = .ok (.tableswitch 70 0 3 #[32, 38, 51, 64], 32) := by decide +kernel
theorem dX12_code_36 : decode cX12_code 36 = .ok (.aload_n 0, 1) := by decide +kernel
theorem dX12_code_37 : decode cX12_code 37 = .ok (.aload_n 1, 1) := by decide +kernel
theorem dX12_code_38 : decode cX12_code 38 = .ok (.invokevirtual 37, 3) := by decide +kernel
theorem dX12_code_41 : decode cX12_code 41 = .ok (.areturn, 1) := by decide +kernel
theorem dX12_code_42 : decode cX12_code 42 = .ok (.aload_n 0, 1) := by decide +kernel
theorem dX12_code_43 : decode cX12_code 43 = .ok (.aload_n 1, 1) := by decide +kernel
theorem dX12_code_44 : decode cX12_code 44 = .ok (.aload_n 0, 1) := by decide +kernel
theorem dX12_code_45 : decode cX12_code 45 = .ok (.getfield 15, 3) := by decide +kernel
theorem dX12_code_48 : decode cX12_code 48 = .ok (.invokestatic 41, 3) := by decide +kernel
theorem dX12_code_51 : decode cX12_code 51 = .ok (.invokevirtual 45, 3) := by decide +kernel
theorem dX12_code_54 : decode cX12_code 54 = .ok (.areturn, 1) := by decide +kernel
theorem dX12_code_55 : decode cX12_code 55 = .ok (.aload_n 0, 1) := by decide +kernel
theorem dX12_code_56 : decode cX12_code 56 = .ok (.aload_n 1, 1) := by decide +kernel
theorem dX12_code_57 : decode cX12_code 57 = .ok (.aload_n 0, 1) := by decide +kernel
theorem dX12_code_58 : decode cX12_code 58 = .ok (.getfield 18, 3) := by decide +kernel
theorem dX12_code_61 : decode cX12_code 61 = .ok (.invokestatic 41, 3) := by decide +kernel
theorem dX12_code_64 : decode cX12_code 64 = .ok (.invokevirtual 48, 3) := by decide +kernel
theorem dX12_code_67 : decode cX12_code 67 = .ok (.areturn, 1) := by decide +kernel
theorem dX12_code_68 : decode cX12_code 68 = .ok (.aload_n 0, 1) := by decide +kernel
theorem dX12_code_69 : decode cX12_code 69 = .ok (.aload_n 1, 1) := by decide +kernel
theorem dX12_code_70 : decode cX12_code 70 = .ok (.invokevirtual 51, 3) := by decide +kernel
theorem dX12_code_73 : decode cX12_code 73 = .ok (.areturn, 1) := by decide +kernel
theorem dX12_code_74 : decode cX12_code 74 = .ok (.aload_n 0, 1) := by decide +kernel
theorem dX12_code_75 : decode cX12_code 75 = .ok (.aload_n 1, 1) := by decide +kernel
theorem dX12_code_76 : decode cX12_code 76 = .ok (.aload_n 0, 1) := by decide +kernel
theorem dX12_code_77 : decode cX12_code 77 = .ok (.getfield 15, 3) := by decide +kernel
theorem dX12_code_80 : decode cX12_code 80 = .ok (.aload_n 0, 1) := by decide +kernel
theorem dX12_code_81 : decode cX12_code 81 = .ok (.getfield 18, 3) := by decide +kernel
theorem dX12_code_84 : decode cX12_code 84 = .ok (.imul, 1) := by decide +kernel
theorem dX12_code_85 : decode cX12_code 85 = .ok (.invokestatic 41, 3) := by decide +kernel
theorem dX12_code_88 : decode cX12_code 88 = .ok (.invokevirtual 54, 3) := by decide +kernel
theorem dX12_code_91 : decode cX12_code 91 = .ok (.areturn, 1) := by decide +kernel
theorem dX12_repeated_0 : decode cX12_repeated 0 = .ok (.aload_n 1, 1) := by decide +kernel
theorem dX12_repeated_1 : decode cX12_repeated 1 = .ok (.arraylength, 1) := by decide +kernel
theorem dX12_repeated_2 : decode cX12_repeated 2 = .ok (.aload_n 0, 1) := by decide +kernel
theorem dX12_repeated_3 : decode cX12_repeated 3 = .ok (.getfield 15, 3) := by decide +kernel
theorem dX12_repeated_6 : decode cX12_repeated 6 = .ok (.imul, 1) := by decide +kernel
theorem dX12_repeated_7 : decode cX12_repeated 7 = .ok (.newarray .int, 2) := by decide +kernel
theorem dX12_repeated_9 : decode cX12_repeated 9 = .ok (.astore_n 2, 1) := by decide +kernel
theorem dX12_repeated_10 : decode cX12_repeated 10 = .ok (.iconst 0, 1) := by decide +kernel
theorem dX12_repeated_11 : decode cX12_repeated 11 = .ok (.istore_n 3, 1) := by decide +kernel
theorem dX12_repeated_12 : decode cX12_repeated 12 = .ok (.iload_n 3, 1) := by decide +kernel
theorem dX12_repeated_13 : decode cX12_repeated 13 = .ok (.aload_n 2, 1) := by decide +kernel
theorem dX12_repeated_14 : decode cX12_repeated 14 = .ok (.arraylength, 1) := by decide +kernel
theorem dX12_repeated_15 : decode cX12_repeated 15 = .ok (.if_icmp .ge 20, 3) := by decide +kernel
theorem dX12_repeated_18 : decode cX12_repeated 18 = .ok (.aload_n 2, 1) := by decide +kernel
theorem dX12_repeated_19 : decode cX12_repeated 19 = .ok (.iload_n 3, 1) := by decide +kernel
theorem dX12_repeated_20 : decode cX12_repeated 20 = .ok (.aload_n 1, 1) := by decide +kernel
theorem dX12_repeated_21 : decode cX12_repeated 21 = .ok (.iload_n 3, 1) := by decide +kernel
theorem dX12_repeated_22 : decode cX12_repeated 22 = .ok (.aload_n 0, 1) := by decide +kernel
theorem dX12_repeated_23 : decode cX12_repeated 23 = .ok (.getfield 15, 3) := by decide +kernel
theorem dX12_repeated_26 : decode cX12_repeated 26 = .ok (.idiv, 1) := by decide +kernel
theorem dX12_repeated_27 : decode cX12_repeated 27 = .ok (.iaload, 1) := by decide +kernel
theorem dX12_repeated_28 : decode cX12_repeated 28 = .ok (.iastore, 1) := by decide +kernel
theorem dX12_repeated_29 : decode cX12_repeated 29 = .ok (.iinc 3 1, 3) := by decide +kernel
theorem dX12_repeated_32 : decode cX12_repeated 32 = .ok (.goto (-20), 3) := by decide +kernel
theorem dX12_repeated_35 : decode cX12_repeated 35 = .ok (.aload_n 2, 1) := by decide +kernel
theorem dX12_repeated_36 : decode cX12_repeated 36 = .ok (.areturn, 1) := by decide +kernel
theorem dX12_blocks_0 : decode cX12_blocks 0 = .ok (.aload_n 1, 1) := by decide +kernel
theorem dX12_blocks_1 : decode cX12_blocks 1 = .ok (.arraylength, 1) := by decide +kernel
theorem dX12_blocks_2 : decode cX12_blocks 2 = .ok (.aload_n 0, 1) := by decide +kernel
theorem dX12_blocks_3 : decode cX12_blocks 3 = .ok (.getfield 15, 3) := by decide +kernel
theorem dX12_blocks_6 : decode cX12_blocks 6 = .ok (.idiv, 1) := by decide +kernel
theorem dX12_blocks_7 : decode cX12_blocks 7 = .ok (.aload_n 0, 1) := by decide +kernel
theorem dX12_blocks_8 : decode cX12_blocks 8 = .ok (.getfield 18, 3) := by decide +kernel
theorem dX12_blocks_11 : decode cX12_blocks 11 = .ok (.imul, 1) := by decide +kernel
theorem dX12_blocks_12 : decode cX12_blocks 12 = .ok (.newarray .int, 2) := by decide +kernel
theorem dX12_blocks_14 : decode cX12_blocks 14 = .ok (.astore_n 2, 1) := by decide +kernel
theorem dX12_blocks_15 : decode cX12_blocks 15 = .ok (.iconst 0, 1) := by decide +kernel
theorem dX12_blocks_16 : decode cX12_blocks 16 = .ok (.istore_n 3, 1) := by decide +kernel
theorem dX12_blocks_17 : decode cX12_blocks 17 = .ok (.iload_n 3, 1) := by decide +kernel
theorem dX12_blocks_18 : decode cX12_blocks 18 = .ok (.aload_n 0, 1) := by decide +kernel
theorem dX12_blocks_19 : decode cX12_blocks 19 = .ok (.getfield 15, 3) := by decide +kernel
theorem dX12_blocks_22 : decode cX12_blocks 22 = .ok (.imul, 1) := by decide +kernel
theorem dX12_blocks_23 : decode cX12_blocks 23 = .ok (.aload_n 1, 1) := by decide +kernel
theorem dX12_blocks_24 : decode cX12_blocks 24 = .ok (.arraylength, 1) := by decide +kernel
theorem dX12_blocks_25 : decode cX12_blocks 25 = .ok (.if_icmp .ge 41, 3) := by decide +kernel
theorem dX12_blocks_28 : decode cX12_blocks 28 = .ok (.aload_n 0, 1) := by decide +kernel
theorem dX12_blocks_29 : decode cX12_blocks 29 = .ok (.aload_n 1, 1) := by decide +kernel
theorem dX12_blocks_30 : decode cX12_blocks 30 = .ok (.iload_n 3, 1) := by decide +kernel
theorem dX12_blocks_31 : decode cX12_blocks 31 = .ok (.aload_n 0, 1) := by decide +kernel
theorem dX12_blocks_32 : decode cX12_blocks 32 = .ok (.getfield 15, 3) := by decide +kernel
theorem dX12_blocks_35 : decode cX12_blocks 35 = .ok (.imul, 1) := by decide +kernel
theorem dX12_blocks_36 : decode cX12_blocks 36 = .ok (.aload_n 0, 1) := by decide +kernel
theorem dX12_blocks_37 : decode cX12_blocks 37 = .ok (.getfield 15, 3) := by decide +kernel
theorem dX12_blocks_40 : decode cX12_blocks 40 = .ok (.invokestatic 57, 3) := by decide +kernel
theorem dX12_blocks_43 : decode cX12_blocks 43 = .ok (.invokevirtual 61, 3) := by decide +kernel
theorem dX12_blocks_46 : decode cX12_blocks 46 = .ok (.aload_n 2, 1) := by decide +kernel
theorem dX12_blocks_47 : decode cX12_blocks 47 = .ok (.iload_n 3, 1) := by decide +kernel
theorem dX12_blocks_48 : decode cX12_blocks 48 = .ok (.aload_n 0, 1) := by decide +kernel
theorem dX12_blocks_49 : decode cX12_blocks 49 = .ok (.getfield 18, 3) := by decide +kernel
theorem dX12_blocks_52 : decode cX12_blocks 52 = .ok (.imul, 1) := by decide +kernel
theorem dX12_blocks_53 : decode cX12_blocks 53 = .ok (.aload_n 0, 1) := by decide +kernel
theorem dX12_blocks_54 : decode cX12_blocks 54 = .ok (.getfield 18, 3) := by decide +kernel
theorem dX12_blocks_57 : decode cX12_blocks 57 = .ok (.invokestatic 64, 3) := by decide +kernel
theorem dX12_blocks_60 : decode cX12_blocks 60 = .ok (.iinc 3 1, 3) := by decide +kernel
theorem dX12_blocks_63 : decode cX12_blocks 63 = .ok (.goto (-46), 3) := by decide +kernel
theorem dX12_blocks_66 : decode cX12_blocks 66 = .ok (.aload_n 2, 1) := by decide +kernel
theorem dX12_blocks_67 : decode cX12_blocks 67 = .ok (.areturn, 1) := by decide +kernel
theorem dX12_checks_0 : decode cX12_checks 0 = .ok (.bipush 31, 2) := by decide +kernel
theorem dX12_checks_2 : decode cX12_checks 2 = .ok (.aload_n 0, 1) := by decide +kernel
theorem dX12_checks_3 : decode cX12_checks 3 = .ok (.getfield 15, 3) := by decide +kernel
theorem dX12_checks_6 : decode cX12_checks 6 = .ok (.invokestatic 68, 3) := by decide +kernel
theorem dX12_checks_9 : decode cX12_checks 9 = .ok (.isub, 1) := by decide +kernel
theorem dX12_checks_10 : decode cX12_checks 10 = .ok (.ireturn, 1) := by decide +kernel
theorem dX12_checked_0 : decode cX12_checked 0 = .ok (.aload_n 0, 1) := by decide +kernel
theorem dX12_checked_1 : decode cX12_checked 1 = .ok (.getfield 18, 3) := by decide +kernel
theorem dX12_checked_4 : decode cX12_checked 4 = .ok (.aload_n 0, 1) := by decide +kernel
theorem dX12_checked_5 : decode cX12_checked 5 = .ok (.invokevirtual 71, 3) := by decide +kernel
theorem dX12_checked_8 : decode cX12_checked 8 = .ok (.iadd, 1) := by decide +kernel
theorem dX12_checked_9 : decode cX12_checked 9 = .ok (.istore_n 2, 1) := by decide +kernel
theorem dX12_checked_10 : decode cX12_checked 10 = .ok (.aload_n 1, 1) := by decide +kernel
theorem dX12_checked_11 : decode cX12_checked 11 = .ok (.arraylength, 1) := by decide +kernel
theorem dX12_checked_12 : decode cX12_checked 12 = .ok (.aload_n 0, 1) := by decide +kernel
theorem dX12_checked_13 : decode cX12_checked 13 = .ok (.getfield 18, 3) := by decide +kernel
theorem dX12_checked_16 : decode cX12_checked 16 = .ok (.idiv, 1) := by decide +kernel
theorem dX12_checked_17 : decode cX12_checked 17 = .ok (.iload_n 2, 1) := by decide +kernel
theorem dX12_checked_18 : decode cX12_checked 18 = .ok (.imul, 1) := by decide +kernel
theorem dX12_checked_19 : decode cX12_checked 19 = .ok (.newarray .int, 2) := by decide +kernel
theorem dX12_checked_21 : decode cX12_checked 21 = .ok (.astore_n 3, 1) := by decide +kernel
theorem dX12_checked_22 : decode cX12_checked 22 = .ok (.iconst 0, 1) := by decide +kernel
theorem dX12_checked_23 : decode cX12_checked 23 = .ok (.istore 4, 2) := by decide +kernel
theorem dX12_checked_25 : decode cX12_checked 25 = .ok (.iload 4, 2) := by decide +kernel
theorem dX12_checked_27 : decode cX12_checked 27 = .ok (.aload_n 0, 1) := by decide +kernel
theorem dX12_checked_28 : decode cX12_checked 28 = .ok (.getfield 18, 3) := by decide +kernel
theorem dX12_checked_31 : decode cX12_checked 31 = .ok (.imul, 1) := by decide +kernel
theorem dX12_checked_32 : decode cX12_checked 32 = .ok (.aload_n 1, 1) := by decide +kernel
theorem dX12_checked_33 : decode cX12_checked 33 = .ok (.arraylength, 1) := by decide +kernel
theorem dX12_checked_34 : decode cX12_checked 34 = .ok (.if_icmp .ge 59, 3) := by decide +kernel
theorem dX12_checked_37 : decode cX12_checked 37 = .ok (.aload_n 1, 1) := by decide +kernel
theorem dX12_checked_38 : decode cX12_checked 38 = .ok (.iload 4, 2) := by decide +kernel
theorem dX12_checked_40 : decode cX12_checked 40 = .ok (.aload_n 0, 1) := by decide +kernel
theorem dX12_checked_41 : decode cX12_checked 41 = .ok (.getfield 18, 3) := by decide +kernel
theorem dX12_checked_44 : decode cX12_checked 44 = .ok (.imul, 1) := by decide +kernel
theorem dX12_checked_45 : decode cX12_checked 45 = .ok (.aload_n 3, 1) := by decide +kernel
theorem dX12_checked_46 : decode cX12_checked 46 = .ok (.iload 4, 2) := by decide +kernel
theorem dX12_checked_48 : decode cX12_checked 48 = .ok (.iload_n 2, 1) := by decide +kernel
theorem dX12_checked_49 : decode cX12_checked 49 = .ok (.imul, 1) := by decide +kernel
theorem dX12_checked_50 : decode cX12_checked 50 = .ok (.aload_n 0, 1) := by decide +kernel
theorem dX12_checked_51 : decode cX12_checked 51 = .ok (.getfield 18, 3) := by decide +kernel
theorem dX12_checked_54 : decode cX12_checked 54 = .ok (.invokestatic 25, 3) := by decide +kernel
theorem dX12_checked_57 : decode cX12_checked 57 = .ok (.aload_n 0, 1) := by decide +kernel
theorem dX12_checked_58 : decode cX12_checked 58 = .ok (.aload_n 1, 1) := by decide +kernel
theorem dX12_checked_59 : decode cX12_checked 59 = .ok (.iload 4, 2) := by decide +kernel
theorem dX12_checked_61 : decode cX12_checked 61 = .ok (.aload_n 0, 1) := by decide +kernel
theorem dX12_checked_62 : decode cX12_checked 62 = .ok (.getfield 18, 3) := by decide +kernel
theorem dX12_checked_65 : decode cX12_checked 65 = .ok (.imul, 1) := by decide +kernel
theorem dX12_checked_66 : decode cX12_checked 66 = .ok (.invokevirtual 75, 3) := by decide +kernel
theorem dX12_checked_69 : decode cX12_checked 69 = .ok (.iconst 0, 1) := by decide +kernel
theorem dX12_checked_70 : decode cX12_checked 70 = .ok (.aload_n 3, 1) := by decide +kernel
theorem dX12_checked_71 : decode cX12_checked 71 = .ok (.iload 4, 2) := by decide +kernel
theorem dX12_checked_73 : decode cX12_checked 73 = .ok (.iload_n 2, 1) := by decide +kernel
theorem dX12_checked_74 : decode cX12_checked 74 = .ok (.imul, 1) := by decide +kernel
theorem dX12_checked_75 : decode cX12_checked 75 = .ok (.aload_n 0, 1) := by decide +kernel
theorem dX12_checked_76 : decode cX12_checked 76 = .ok (.getfield 18, 3) := by decide +kernel
theorem dX12_checked_79 : decode cX12_checked 79 = .ok (.iadd, 1) := by decide +kernel
theorem dX12_checked_80 : decode cX12_checked 80 = .ok (.aload_n 0, 1) := by decide +kernel
theorem dX12_checked_81 : decode cX12_checked 81 = .ok (.invokevirtual 71, 3) := by decide +kernel
theorem dX12_checked_84 : decode cX12_checked 84 = .ok (.invokestatic 25, 3) := by decide +kernel
theorem dX12_checked_87 : decode cX12_checked 87 = .ok (.iinc 4 1, 3) := by decide +kernel
theorem dX12_checked_90 : decode cX12_checked 90 = .ok (.goto (-65), 3) := by decide +kernel
theorem dX12_checked_93 : decode cX12_checked 93 = .ok (.aload_n 3, 1) := by decide +kernel
theorem dX12_checked_94 : decode cX12_checked 94 = .ok (.areturn, 1) := by decide +kernel
theorem dX12_trailed_0 : decode cX12_trailed 0 = .ok (.aload_n 1, 1) := by decide +kernel
theorem dX12_trailed_1 : decode cX12_trailed 1 = .ok (.arraylength, 1) := by decide +kernel
theorem dX12_trailed_2 : decode cX12_trailed 2 = .ok (.ifCond .ne 5, 3) := by decide +kernel
theorem dX12_trailed_5 : decode cX12_trailed 5 = .ok (.aload_n 1, 1) := by decide +kernel
theorem dX12_trailed_6 : decode cX12_trailed 6 = .ok (.areturn, 1) := by decide +kernel
theorem dX12_trailed_7 : decode cX12_trailed 7 = .ok (.aload_n 1, 1) := by decide +kernel
theorem dX12_trailed_8 : decode cX12_trailed 8 = .ok (.arraylength, 1) := by decide +kernel
theorem dX12_trailed_9 : decode cX12_trailed 9 = .ok (.aload_n 0, 1) := by decide +kernel
theorem dX12_trailed_10 : decode cX12_trailed 10 = .ok (.getfield 15, 3) := by decide +kernel
theorem dX12_trailed_13 : decode cX12_trailed 13 = .ok (.iadd, 1) := by decide +kernel
theorem dX12_trailed_14 : decode cX12_trailed 14 = .ok (.aload_n 0, 1) := by decide +kernel
theorem dX12_trailed_15 : decode cX12_trailed 15 = .ok (.getfield 21, 3) := by decide +kernel
theorem dX12_trailed_18 : decode cX12_trailed 18 = .ok (.arraylength, 1) := by decide +kernel
theorem dX12_trailed_19 : decode cX12_trailed 19 = .ok (.imul, 1) := by decide +kernel
theorem dX12_trailed_20 : decode cX12_trailed 20 = .ok (.newarray .int, 2) := by decide +kernel
theorem dX12_trailed_22 : decode cX12_trailed 22 = .ok (.astore_n 2, 1) := by decide +kernel
theorem dX12_trailed_23 : decode cX12_trailed 23 = .ok (.iconst 0, 1) := by decide +kernel
theorem dX12_trailed_24 : decode cX12_trailed 24 = .ok (.istore_n 3, 1) := by decide +kernel
theorem dX12_trailed_25 : decode cX12_trailed 25 = .ok (.iconst 0, 1) := by decide +kernel
theorem dX12_trailed_26 : decode cX12_trailed 26 = .ok (.istore 4, 2) := by decide +kernel
theorem dX12_trailed_28 : decode cX12_trailed 28 = .ok (.iload 4, 2) := by decide +kernel
theorem dX12_trailed_30 : decode cX12_trailed 30 = .ok (.aload_n 1, 1) := by decide +kernel
theorem dX12_trailed_31 : decode cX12_trailed 31 = .ok (.arraylength, 1) := by decide +kernel
theorem dX12_trailed_32 : decode cX12_trailed 32 = .ok (.aload_n 0, 1) := by decide +kernel
theorem dX12_trailed_33 : decode cX12_trailed 33 = .ok (.getfield 15, 3) := by decide +kernel
theorem dX12_trailed_36 : decode cX12_trailed 36 = .ok (.iadd, 1) := by decide +kernel
theorem dX12_trailed_37 : decode cX12_trailed 37 = .ok (.if_icmp .ge 83, 3) := by decide +kernel
theorem dX12_trailed_40 : decode cX12_trailed 40 = .ok (.iload 4, 2) := by decide +kernel
theorem dX12_trailed_42 : decode cX12_trailed 42 = .ok (.aload_n 1, 1) := by decide +kernel
theorem dX12_trailed_43 : decode cX12_trailed 43 = .ok (.arraylength, 1) := by decide +kernel
theorem dX12_trailed_44 : decode cX12_trailed 44 = .ok (.if_icmp .ge 10, 3) := by decide +kernel
theorem dX12_trailed_47 : decode cX12_trailed 47 = .ok (.aload_n 1, 1) := by decide +kernel
theorem dX12_trailed_48 : decode cX12_trailed 48 = .ok (.iload 4, 2) := by decide +kernel
theorem dX12_trailed_50 : decode cX12_trailed 50 = .ok (.iaload, 1) := by decide +kernel
theorem dX12_trailed_51 : decode cX12_trailed 51 = .ok (.goto 4, 3) := by decide +kernel
theorem dX12_trailed_54 : decode cX12_trailed 54 = .ok (.iconst 0, 1) := by decide +kernel
theorem dX12_trailed_55 : decode cX12_trailed 55 = .ok (.aload_n 0, 1) := by decide +kernel
theorem dX12_trailed_56 : decode cX12_trailed 56 = .ok (.getfield 15, 3) := by decide +kernel
theorem dX12_trailed_59 : decode cX12_trailed 59 = .ok (.ishl, 1) := by decide +kernel
theorem dX12_trailed_60 : decode cX12_trailed 60 = .ok (.iload_n 3, 1) := by decide +kernel
theorem dX12_trailed_61 : decode cX12_trailed 61 = .ok (.ior, 1) := by decide +kernel
theorem dX12_trailed_62 : decode cX12_trailed 62 = .ok (.istore 5, 2) := by decide +kernel
theorem dX12_trailed_64 : decode cX12_trailed 64 = .ok (.iconst 0, 1) := by decide +kernel
theorem dX12_trailed_65 : decode cX12_trailed 65 = .ok (.istore 6, 2) := by decide +kernel
theorem dX12_trailed_67 : decode cX12_trailed 67 = .ok (.iload 6, 2) := by decide +kernel
theorem dX12_trailed_69 : decode cX12_trailed 69 = .ok (.aload_n 0, 1) := by decide +kernel
theorem dX12_trailed_70 : decode cX12_trailed 70 = .ok (.getfield 21, 3) := by decide +kernel
theorem dX12_trailed_73 : decode cX12_trailed 73 = .ok (.arraylength, 1) := by decide +kernel
theorem dX12_trailed_74 : decode cX12_trailed 74 = .ok (.if_icmp .ge 35, 3) := by decide +kernel
theorem dX12_trailed_77 : decode cX12_trailed 77 = .ok (.aload_n 2, 1) := by decide +kernel
theorem dX12_trailed_78 : decode cX12_trailed 78 = .ok (.iload 4, 2) := by decide +kernel
theorem dX12_trailed_80 : decode cX12_trailed 80 = .ok (.aload_n 0, 1) := by decide +kernel
theorem dX12_trailed_81 : decode cX12_trailed 81 = .ok (.getfield 21, 3) := by decide +kernel
theorem dX12_trailed_84 : decode cX12_trailed 84 = .ok (.arraylength, 1) := by decide +kernel
theorem dX12_trailed_85 : decode cX12_trailed 85 = .ok (.imul, 1) := by decide +kernel
theorem dX12_trailed_86 : decode cX12_trailed 86 = .ok (.iload 6, 2) := by decide +kernel
theorem dX12_trailed_88 : decode cX12_trailed 88 = .ok (.iadd, 1) := by decide +kernel
theorem dX12_trailed_89 : decode cX12_trailed 89 = .ok (.iload 5, 2) := by decide +kernel
theorem dX12_trailed_91 : decode cX12_trailed 91 = .ok (.aload_n 0, 1) := by decide +kernel
theorem dX12_trailed_92 : decode cX12_trailed 92 = .ok (.getfield 21, 3) := by decide +kernel
theorem dX12_trailed_95 : decode cX12_trailed 95 = .ok (.iload 6, 2) := by decide +kernel
theorem dX12_trailed_97 : decode cX12_trailed 97 = .ok (.iaload, 1) := by decide +kernel
theorem dX12_trailed_98 : decode cX12_trailed 98 = .ok (.iand, 1) := by decide +kernel
theorem dX12_trailed_99 : decode cX12_trailed 99 = .ok (.invokestatic 78, 3) := by decide +kernel
theorem dX12_trailed_102 : decode cX12_trailed 102 = .ok (.iastore, 1) := by decide +kernel
theorem dX12_trailed_103 : decode cX12_trailed 103 = .ok (.iinc 6 1, 3) := by decide +kernel
theorem dX12_trailed_106 : decode cX12_trailed 106 = .ok (.goto (-39), 3) := by decide +kernel
theorem dX12_trailed_109 : decode cX12_trailed 109 = .ok (.iload 5, 2) := by decide +kernel
theorem dX12_trailed_111 : decode cX12_trailed 111 = .ok (.iconst 1, 1) := by decide +kernel
theorem dX12_trailed_112 : decode cX12_trailed 112 = .ok (.ishr, 1) := by decide +kernel
theorem dX12_trailed_113 : decode cX12_trailed 113 = .ok (.istore_n 3, 1) := by decide +kernel
theorem dX12_trailed_114 : decode cX12_trailed 114 = .ok (.iinc 4 1, 3) := by decide +kernel
theorem dX12_trailed_117 : decode cX12_trailed 117 = .ok (.goto (-89), 3) := by decide +kernel
theorem dX12_trailed_120 : decode cX12_trailed 120 = .ok (.aload_n 2, 1) := by decide +kernel
theorem dX12_trailed_121 : decode cX12_trailed 121 = .ok (.areturn, 1) := by decide +kernel
theorem dX12_woven__0 : decode cX12_woven_ 0 = .ok (.aload_n 1, 1) := by decide +kernel
theorem dX12_woven__1 : decode cX12_woven_ 1 = .ok (.arraylength, 1) := by decide +kernel
theorem dX12_woven__2 : decode cX12_woven_ 2 = .ok (.newarray .int, 2) := by decide +kernel
theorem dX12_woven__4 : decode cX12_woven_ 4 = .ok (.astore_n 2, 1) := by decide +kernel
theorem dX12_woven__5 : decode cX12_woven_ 5 = .ok (.iconst 0, 1) := by decide +kernel
theorem dX12_woven__6 : decode cX12_woven_ 6 = .ok (.istore_n 3, 1) := by decide +kernel
theorem dX12_woven__7 : decode cX12_woven_ 7 = .ok (.iload_n 3, 1) := by decide +kernel
theorem dX12_woven__8 : decode cX12_woven_ 8 = .ok (.aload_n 1, 1) := by decide +kernel
theorem dX12_woven__9 : decode cX12_woven_ 9 = .ok (.arraylength, 1) := by decide +kernel
theorem dX12_woven__10 : decode cX12_woven_ 10 = .ok (.if_icmp .ge 19, 3) := by decide +kernel
theorem dX12_woven__13 : decode cX12_woven_ 13 = .ok (.aload_n 2, 1) := by decide +kernel
theorem dX12_woven__14 : decode cX12_woven_ 14 = .ok (.aload_n 0, 1) := by decide +kernel
theorem dX12_woven__15 : decode cX12_woven_ 15 = .ok (.iload_n 3, 1) := by decide +kernel
theorem dX12_woven__16 : decode cX12_woven_ 16 = .ok (.invokevirtual 81, 3) := by decide +kernel
theorem dX12_woven__19 : decode cX12_woven_ 19 = .ok (.aload_n 1, 1) := by decide +kernel
theorem dX12_woven__20 : decode cX12_woven_ 20 = .ok (.iload_n 3, 1) := by decide +kernel
theorem dX12_woven__21 : decode cX12_woven_ 21 = .ok (.iaload, 1) := by decide +kernel
theorem dX12_woven__22 : decode cX12_woven_ 22 = .ok (.iastore, 1) := by decide +kernel
theorem dX12_woven__23 : decode cX12_woven_ 23 = .ok (.iinc 3 1, 3) := by decide +kernel
theorem dX12_woven__26 : decode cX12_woven_ 26 = .ok (.goto (-19), 3) := by decide +kernel
theorem dX12_woven__29 : decode cX12_woven_ 29 = .ok (.aload_n 2, 1) := by decide +kernel
theorem dX12_woven__30 : decode cX12_woven_ 30 = .ok (.areturn, 1) := by decide +kernel
theorem dX13_init_0 : decode cX13_init 0 = .ok (.aload_n 0, 1) := by decide +kernel
theorem dX13_init_1 : decode cX13_init 1 = .ok (.invokespecial 1, 3) := by decide +kernel
theorem dX13_init_4 : decode cX13_init 4 = .ok (.aload_n 0, 1) := by decide +kernel
theorem dX13_init_5 : decode cX13_init 5 = .ok (.iconst 0, 1) := by decide +kernel
theorem dX13_init_6 : decode cX13_init 6 = .ok (.newarray .int, 2) := by decide +kernel
theorem dX13_init_8 : decode cX13_init 8 = .ok (.putfield 7, 3) := by decide +kernel
theorem dX13_init_11 : decode cX13_init 11 = .ok (.aload_n 0, 1) := by decide +kernel
theorem dX13_init_12 : decode cX13_init 12 = .ok (.new 13, 3) := by decide +kernel
theorem dX13_init_15 : decode cX13_init 15 = .ok (.dup, 1) := by decide +kernel
theorem dX13_init_16 : decode cX13_init 16 = .ok (.invokespecial 15, 3) := by decide +kernel
theorem dX13_init_19 : decode cX13_init 19 = .ok (.putfield 16, 3) := by decide +kernel
theorem dX13_init_22 : decode cX13_init 22 = .ok (.aload_n 0, 1) := by decide +kernel
theorem dX13_init_23 : decode cX13_init 23 = .ok (.iconst 4, 1) := by decide +kernel
theorem dX13_init_24 : decode cX13_init 24 = .ok (.newarray .int, 2) := by decide +kernel
theorem dX13_init_26 : decode cX13_init 26 = .ok (.dup, 1) := by decide +kernel
theorem dX13_init_27 : decode cX13_init 27 = .ok (.iconst 0, 1) := by decide +kernel
theorem dX13_init_28 : decode cX13_init 28 = .ok (.iconst 0, 1) := by decide +kernel
theorem dX13_init_29 : decode cX13_init 29 = .ok (.iastore, 1) := by decide +kernel
theorem dX13_init_30 : decode cX13_init 30 = .ok (.dup, 1) := by decide +kernel
theorem dX13_init_31 : decode cX13_init 31 = .ok (.iconst 1, 1) := by decide +kernel
theorem dX13_init_32 : decode cX13_init 32 = .ok (.iconst 0, 1) := by decide +kernel
theorem dX13_init_33 : decode cX13_init 33 = .ok (.iastore, 1) := by decide +kernel
theorem dX13_init_34 : decode cX13_init 34 = .ok (.dup, 1) := by decide +kernel
theorem dX13_init_35 : decode cX13_init 35 = .ok (.iconst 2, 1) := by decide +kernel
theorem dX13_init_36 : decode cX13_init 36 = .ok (.iconst 0, 1) := by decide +kernel
theorem dX13_init_37 : decode cX13_init 37 = .ok (.iastore, 1) := by decide +kernel
theorem dX13_init_38 : decode cX13_init 38 = .ok (.dup, 1) := by decide +kernel
theorem dX13_init_39 : decode cX13_init 39 = .ok (.iconst 3, 1) := by decide +kernel
theorem dX13_init_40 : decode cX13_init 40 = .ok (.iconst 1, 1) := by decide +kernel
theorem dX13_init_41 : decode cX13_init 41 = .ok (.iastore, 1) := by decide +kernel
theorem dX13_init_42 : decode cX13_init 42 = .ok (.putfield 20, 3) := by decide +kernel
theorem dX13_init_45 : decode cX13_init 45 = .ok (.aload_n 0, 1) := by decide +kernel
theorem dX13_init_46 : decode cX13_init 46 = .ok (.sipush 320, 3) := by decide +kernel
theorem dX13_init_49 : decode cX13_init 49 = .ok (.newarray .boolean, 2) := by decide +kernel
theorem dX13_init_51 : decode cX13_init 51 = .ok (.putfield 23, 3) := by decide +kernel
theorem dX13_init_54 : decode cX13_init 54 = .ok (.return_, 1) := by decide +kernel
theorem dX13_thrown_0 : decode cX13_thrown 0 = .ok (.aload_n 0, 1) := by decide +kernel
theorem dX13_thrown_1 : decode cX13_thrown 1 = .ok (.getfield 27, 3) := by decide +kernel
theorem dX13_thrown_4 : decode cX13_thrown 4 = .ok (.ireturn, 1) := by decide +kernel
theorem dX13_isIn_0 : decode cX13_isIn 0 = .ok (.iload_n 0, 1) := by decide +kernel
theorem dX13_isIn_1 : decode cX13_isIn 1 = .ok (.iload_n 1, 1) := by decide +kernel
theorem dX13_isIn_2 : decode cX13_isIn 2 = .ok (.if_icmp .lt 12, 3) := by decide +kernel
theorem dX13_isIn_5 : decode cX13_isIn 5 = .ok (.iload_n 0, 1) := by decide +kernel
theorem dX13_isIn_6 : decode cX13_isIn 6 = .ok (.iload_n 2, 1) := by decide +kernel
theorem dX13_isIn_7 : decode cX13_isIn 7 = .ok (.if_icmp .gt 7, 3) := by decide +kernel
theorem dX13_isIn_10 : decode cX13_isIn 10 = .ok (.iconst 1, 1) := by decide +kernel
theorem dX13_isIn_11 : decode cX13_isIn 11 = .ok (.goto 4, 3) := by decide +kernel
theorem dX13_isIn_14 : decode cX13_isIn 14 = .ok (.iconst 0, 1) := by decide +kernel
theorem dX13_isIn_15 : decode cX13_isIn 15 = .ok (.ireturn, 1) := by decide +kernel
theorem dX13_refuse_0 : decode cX13_refuse 0 = .ok (.iload_n 1, 1) := by decide +kernel
theorem dX13_refuse_1 : decode cX13_refuse 1 = .ok (.ifCond .eq 15, 3) := by decide +kernel
theorem dX13_refuse_4 : decode cX13_refuse 4 = .ok (.aload_n 0, 1) := by decide +kernel
theorem dX13_refuse_5 : decode cX13_refuse 5 = .ok (.getfield 27, 3) := by decide +kernel
theorem dX13_refuse_8 : decode cX13_refuse 8 = .ok (.ifCond .ne 8, 3) := by decide +kernel
theorem dX13_refuse_11 : decode cX13_refuse 11 = .ok (.aload_n 0, 1) := by decide +kernel
theorem dX13_refuse_12 : decode cX13_refuse 12 = .ok (.iload_n 2, 1) := by decide +kernel
theorem dX13_refuse_13 : decode cX13_refuse 13 = .ok (.putfield 27, 3) := by decide +kernel
theorem dX13_refuse_16 : decode cX13_refuse 16 = .ok (.aload_n 0, 1) := by decide +kernel
theorem dX13_refuse_17 : decode cX13_refuse 17 = .ok (.getfield 27, 3) := by decide +kernel
theorem dX13_refuse_20 : decode cX13_refuse 20 = .ok (.ifCond .le 7, 3) := by decide +kernel
theorem dX13_refuse_23 : decode cX13_refuse 23 = .ok (.iconst 1, 1) := by decide +kernel
theorem dX13_refuse_24 : decode cX13_refuse 24 = .ok (.goto 4, 3) := by decide +kernel
theorem dX13_refuse_27 : decode cX13_refuse 27 = .ok (.iconst 0, 1) := by decide +kernel
theorem dX13_refuse_28 : decode cX13_refuse 28 = .ok (.ireturn, 1) := by decide +kernel
theorem dX13_start_0 : decode cX13_start 0 = .ok (.aload_n 0, 1) := by decide +kernel
theorem dX13_start_1 : decode cX13_start 1 = .ok (.iconst 0, 1) := by decide +kernel
theorem dX13_start_2 : decode cX13_start 2 = .ok (.putfield 27, 3) := by decide +kernel
theorem dX13_start_5 : decode cX13_start 5 = .ok (.aload_n 0, 1) := by decide +kernel
theorem dX13_start_6 : decode cX13_start 6 = .ok (.iload_n 1, 1) := by decide +kernel
theorem dX13_start_7 : decode cX13_start 7 = .ok (.iload_n 2, 1) := by decide +kernel
theorem dX13_start_8 : decode cX13_start 8 = .ok (.invokevirtual 31, 3) := by decide +kernel
theorem dX13_start_11 : decode cX13_start 11 = .ok (.ireturn, 1) := by decide +kernel
theorem dX13_plain_0 : decode cX13_plain 0 = .ok (.aload_n 0, 1) := by decide +kernel
theorem dX13_plain_1 : decode cX13_plain 1 = .ok (.iconst 0, 1) := by decide +kernel
theorem dX13_plain_2 : decode cX13_plain 2 = .ok (.putfield 27, 3) := by decide +kernel
theorem dX13_plain_5 : decode cX13_plain 5 = .ok (.iload_n 1, 1) := by decide +kernel
theorem dX13_plain_6 : decode cX13_plain 6 = .ok (.ireturn, 1) := by decide +kernel
theorem dX13_rows_0 : decode cX13_rows 0 = .ok (.new 13, 3) := by decide +kernel
theorem dX13_rows_3 : decode cX13_rows 3 = .ok (.dup, 1) := by decide +kernel
theorem dX13_rows_4 : decode cX13_rows 4 = .ok (.invokespecial 15, 3) := by decide +kernel
theorem dX13_rows_7 : decode cX13_rows 7 = .ok (.astore_n 2, 1) := by decide +kernel
theorem dX13_rows_8 : decode cX13_rows 8 = .ok (.aload_n 2, 1) := by decide +kernel
theorem dX13_rows_9 : decode cX13_rows 9 = .ok (.aload_n 1, 1) := by decide +kernel
theorem dX13_rows_10 : decode cX13_rows 10 = .ok (.invokevirtual 35, 3) := by decide +kernel
theorem dX13_rows_13 : decode cX13_rows 13 = .ok (.pop, 1) := by decide +kernel
theorem dX13_rows_14 : decode cX13_rows 14 = .ok (.iconst 0, 1) := by decide +kernel
theorem dX13_rows_15 : decode cX13_rows 15 = .ok (.istore_n 3, 1) := by decide +kernel
theorem dX13_rows_16 : decode cX13_rows 16 = .ok (.iload_n 3, 1) := by decide +kernel
theorem dX13_rows_17 : decode cX13_rows 17 = .ok (.aload_n 0, 1) := by decide +kernel
theorem dX13_rows_18 : decode cX13_rows 18 = .ok (.getfield 16, 3) := by decide +kernel
theorem dX13_rows_21 : decode cX13_rows 21 = .ok (.invokevirtual 39, 3) := by decide +kernel
theorem dX13_rows_24 : decode cX13_rows 24 = .ok (.if_icmp .ge 36, 3) := by decide +kernel
theorem dX13_rows_27 : decode cX13_rows 27 = .ok (.aload_n 2, 1) := by decide +kernel
theorem dX13_rows_28 : decode cX13_rows 28 = .ok (.aload_n 0, 1) := by decide +kernel
theorem dX13_rows_29 : decode cX13_rows 29 = .ok (.getfield 16, 3) := by decide +kernel
theorem dX13_rows_32 : decode cX13_rows 32 = .ok (.iload_n 3, 1) := by decide +kernel
theorem dX13_rows_33 : decode cX13_rows 33 = .ok (.invokevirtual 43, 3) := by decide +kernel
theorem dX13_rows_36 : decode cX13_rows 36 = .ok (.checkcast 47, 3) := by decide +kernel
theorem dX13_rows_39 : decode cX13_rows 39 = .ok (.aload_n 2, 1) := by decide +kernel
theorem dX13_rows_40 : decode cX13_rows 40 = .ok (.iload_n 3, 1) := by decide +kernel
theorem dX13_rows_41 : decode cX13_rows 41 = .ok (.invokevirtual 43, 3) := by decide +kernel
theorem dX13_rows_44 : decode cX13_rows 44 = .ok (.checkcast 49, 3) := by decide +kernel
theorem dX13_rows_47 : decode cX13_rows 47 = .ok (.invokevirtual 50, 3) := by decide +kernel
theorem dX13_rows_50 : decode cX13_rows 50 = .ok (.invokevirtual 35, 3) := by decide +kernel
theorem dX13_rows_53 : decode cX13_rows 53 = .ok (.pop, 1) := by decide +kernel
theorem dX13_rows_54 : decode cX13_rows 54 = .ok (.iinc 3 1, 3) := by decide +kernel
theorem dX13_rows_57 : decode cX13_rows 57 = .ok (.goto (-41), 3) := by decide +kernel
theorem dX13_rows_60 : decode cX13_rows 60 = .ok (.aload_n 2, 1) := by decide +kernel
theorem dX13_rows_61 : decode cX13_rows 61 = .ok (.areturn, 1) := by decide +kernel
theorem dX13_sentNow_0 : decode cX13_sentNow 0 = .ok (.aload_n 0, 1) := by decide +kernel
theorem dX13_sentNow_1 : decode cX13_sentNow 1 = .ok (.aload_n 0, 1) := by decide +kernel
theorem dX13_sentNow_2 : decode cX13_sentNow 2 = .ok (.getfield 7, 3) := by decide +kernel
theorem dX13_sentNow_5 : decode cX13_sentNow 5 = .ok (.invokevirtual 54, 3) := by decide +kernel
theorem dX13_sentNow_8 : decode cX13_sentNow 8 = .ok (.aload_n 0, 1) := by decide +kernel
theorem dX13_sentNow_9 : decode cX13_sentNow 9 = .ok (.getfield 16, 3) := by decide +kernel
theorem dX13_sentNow_12 : decode cX13_sentNow 12 = .ok (.invokevirtual 39, 3) := by decide +kernel
theorem dX13_sentNow_15 : decode cX13_sentNow 15 = .ok (.invokevirtual 43, 3) := by decide +kernel
theorem dX13_sentNow_18 : decode cX13_sentNow 18 = .ok (.checkcast 49, 3) := by decide +kernel
theorem dX13_sentNow_21 : decode cX13_sentNow 21 = .ok (.areturn, 1) := by decide +kernel
theorem dX13_over_0 : decode cX13_over 0 = .ok (.aload_n 0, 1) := by decide +kernel
theorem dX13_over_1 : decode cX13_over 1 = .ok (.invokevirtual 58, 3) := by decide +kernel
theorem dX13_over_4 : decode cX13_over 4 = .ok (.checkcast 49, 3) := by decide +kernel
theorem dX13_over_7 : decode cX13_over 7 = .ok (.astore_n 3, 1) := by decide +kernel
theorem dX13_over_8 : decode cX13_over 8 = .ok (.aload_n 1, 1) := by decide +kernel
theorem dX13_over_9 : decode cX13_over 9 = .ok (.iconst 2, 1) := by decide +kernel
theorem dX13_over_10 : decode cX13_over 10 = .ok (.iaload, 1) := by decide +kernel
theorem dX13_over_11 : decode cX13_over 11 = .ok (.i2l, 1) := by decide +kernel
theorem dX13_over_12 : decode cX13_over 12 = .ok (.lstore 4, 2) := by decide +kernel
theorem dX13_over_14 : decode cX13_over 14 = .ok (.iconst 0, 1) := by decide +kernel
theorem dX13_over_15 : decode cX13_over 15 = .ok (.istore 6, 2) := by decide +kernel
theorem dX13_over_17 : decode cX13_over 17 = .ok (.iload 6, 2) := by decide +kernel
theorem dX13_over_19 : decode cX13_over 19 = .ok (.aload_n 3, 1) := by decide +kernel
theorem dX13_over_20 : decode cX13_over 20 = .ok (.arraylength, 1) := by decide +kernel
theorem dX13_over_21 : decode cX13_over 21 = .ok (.if_icmp .ge 145, 3) := by decide +kernel
theorem dX13_over_24 : decode cX13_over 24 = .ok (.lload 4, 2) := by decide +kernel
theorem dX13_over_26 : decode cX13_over 26 = .ok (.ldc2_w 62, 3) := by decide +kernel
theorem dX13_over_29 : decode cX13_over 29 = .ok (.lmul, 1) := by decide +kernel
theorem dX13_over_30 : decode cX13_over 30 = .ok (.ldc2_w 64, 3) := by decide +kernel
theorem dX13_over_33 : decode cX13_over 33 = .ok (.ladd, 1) := by decide +kernel
theorem dX13_over_34 : decode cX13_over 34 = .ok (.ldc2_w 66, 3) := by decide +kernel
theorem dX13_over_37 : decode cX13_over 37 = .ok (.lrem, 1) := by decide +kernel
theorem dX13_over_38 : decode cX13_over 38 = .ok (.lstore 4, 2) := by decide +kernel
theorem dX13_over_40 : decode cX13_over 40 = .ok (.lload 4, 2) := by decide +kernel
theorem dX13_over_42 : decode cX13_over 42 = .ok (.ldc2_w 68, 3) := by decide +kernel
theorem dX13_over_45 : decode cX13_over 45 = .ok (.ldiv, 1) := by decide +kernel
theorem dX13_over_46 : decode cX13_over 46 = .ok (.ldc2_w 70, 3) := by decide +kernel
theorem dX13_over_49 : decode cX13_over 49 = .ok (.lrem, 1) := by decide +kernel
theorem dX13_over_50 : decode cX13_over 50 = .ok (.aload_n 1, 1) := by decide +kernel
theorem dX13_over_51 : decode cX13_over 51 = .ok (.iconst 1, 1) := by decide +kernel
theorem dX13_over_52 : decode cX13_over 52 = .ok (.iaload, 1) := by decide +kernel
theorem dX13_over_53 : decode cX13_over 53 = .ok (.i2l, 1) := by decide +kernel
theorem dX13_over_54 : decode cX13_over 54 = .ok (.lcmp, 1) := by decide +kernel
theorem dX13_over_55 : decode cX13_over 55 = .ok (.ifCond .ge 7, 3) := by decide +kernel
theorem dX13_over_58 : decode cX13_over 58 = .ok (.iconst 1, 1) := by decide +kernel
theorem dX13_over_59 : decode cX13_over 59 = .ok (.goto 4, 3) := by decide +kernel
theorem dX13_over_62 : decode cX13_over 62 = .ok (.iconst 0, 1) := by decide +kernel
theorem dX13_over_63 : decode cX13_over 63 = .ok (.istore 7, 2) := by decide +kernel
theorem dX13_over_65 : decode cX13_over 65 = .ok (.aload_n 1, 1) := by decide +kernel
theorem dX13_over_66 : decode cX13_over 66 = .ok (.iconst 0, 1) := by decide +kernel
theorem dX13_over_67 : decode cX13_over 67 = .ok (.iaload, 1) := by decide +kernel
theorem dX13_over_68 : decode cX13_over 68 = .ok (.iconst 2, 1) := by decide +kernel
theorem dX13_over_69 : decode cX13_over 69 = .ok (.if_icmp .ne 34, 3) := by decide +kernel
theorem dX13_over_72 : decode cX13_over 72 = .ok (.iload 6, 2) := by decide +kernel
theorem dX13_over_74 : decode cX13_over 74 = .ok (.aload_n 1, 1) := by decide +kernel
theorem dX13_over_75 : decode cX13_over 75 = .ok (.iconst 1, 1) := by decide +kernel
theorem dX13_over_76 : decode cX13_over 76 = .ok (.iaload, 1) := by decide +kernel
theorem dX13_over_77 : decode cX13_over 77 = .ok (.if_icmp .lt 23, 3) := by decide +kernel
theorem dX13_over_80 : decode cX13_over 80 = .ok (.iload 6, 2) := by decide +kernel
theorem dX13_over_82 : decode cX13_over 82 = .ok (.aload_n 1, 1) := by decide +kernel
theorem dX13_over_83 : decode cX13_over 83 = .ok (.iconst 1, 1) := by decide +kernel
theorem dX13_over_84 : decode cX13_over 84 = .ok (.iaload, 1) := by decide +kernel
theorem dX13_over_85 : decode cX13_over 85 = .ok (.isub, 1) := by decide +kernel
theorem dX13_over_86 : decode cX13_over 86 = .ok (.aload_n 1, 1) := by decide +kernel
theorem dX13_over_87 : decode cX13_over 87 = .ok (.iconst 3, 1) := by decide +kernel
theorem dX13_over_88 : decode cX13_over 88 = .ok (.iaload, 1) := by decide +kernel
theorem dX13_over_89 : decode cX13_over 89 = .ok (.irem, 1) := by decide +kernel
theorem dX13_over_90 : decode cX13_over 90 = .ok (.aload_n 1, 1) := by decide +kernel
theorem dX13_over_91 : decode cX13_over 91 = .ok (.iconst 2, 1) := by decide +kernel
theorem dX13_over_92 : decode cX13_over 92 = .ok (.iaload, 1) := by decide +kernel
theorem dX13_over_93 : decode cX13_over 93 = .ok (.if_icmp .ge 7, 3) := by decide +kernel
theorem dX13_over_96 : decode cX13_over 96 = .ok (.iconst 1, 1) := by decide +kernel
theorem dX13_over_97 : decode cX13_over 97 = .ok (.goto 4, 3) := by decide +kernel
theorem dX13_over_100 : decode cX13_over 100 = .ok (.iconst 0, 1) := by decide +kernel
theorem dX13_over_101 : decode cX13_over 101 = .ok (.istore 7, 2) := by decide +kernel
theorem dX13_over_103 : decode cX13_over 103 = .ok (.aload_n 1, 1) := by decide +kernel
theorem dX13_over_104 : decode cX13_over 104 = .ok (.iconst 0, 1) := by decide +kernel
theorem dX13_over_105 : decode cX13_over 105 = .ok (.iaload, 1) := by decide +kernel
theorem dX13_over_106 : decode cX13_over 106 = .ok (.ifCond .le 29, 3) := by decide +kernel
theorem dX13_over_109 : decode cX13_over 109 = .ok (.iload 7, 2) := by decide +kernel
theorem dX13_over_111 : decode cX13_over 111 = .ok (.ifCond .eq 24, 3) := by decide +kernel
theorem dX13_over_114 : decode cX13_over 114 = .ok (.aload_n 3, 1) := by decide +kernel
theorem dX13_over_115 : decode cX13_over 115 = .ok (.iload 6, 2) := by decide +kernel
theorem dX13_over_117 : decode cX13_over 117 = .ok (.aload_n 1, 1) := by decide +kernel
theorem dX13_over_118 : decode cX13_over 118 = .ok (.iconst 0, 1) := by decide +kernel
theorem dX13_over_119 : decode cX13_over 119 = .ok (.iaload, 1) := by decide +kernel
theorem dX13_over_120 : decode cX13_over 120 = .ok (.iconst 3, 1) := by decide +kernel
theorem dX13_over_121 : decode cX13_over 121 = .ok (.if_icmp .ne 7, 3) := by decide +kernel
theorem dX13_over_124 : decode cX13_over 124 = .ok (.iconst 2, 1) := by decide +kernel
theorem dX13_over_125 : decode cX13_over 125 = .ok (.goto 9, 3) := by decide +kernel
theorem dX13_over_128 : decode cX13_over 128 = .ok (.iconst 1, 1) := by decide +kernel
theorem dX13_over_129 : decode cX13_over 129 = .ok (.aload_n 3, 1) := by decide +kernel
theorem dX13_over_130 : decode cX13_over 130 = .ok (.iload 6, 2) := by decide +kernel
theorem dX13_over_132 : decode cX13_over 132 = .ok (.iaload, 1) := by decide +kernel
theorem dX13_over_133 : decode cX13_over 133 = .ok (.isub, 1) := by decide +kernel
theorem dX13_over_134 : decode cX13_over 134 = .ok (.iastore, 1) := by decide +kernel
theorem dX13_over_135 : decode cX13_over 135 = .ok (.aload_n 2, 1) := by decide +kernel
theorem dX13_over_136 : decode cX13_over 136 = .ok (.iload 6, 2) := by decide +kernel
theorem dX13_over_138 : decode cX13_over 138 = .ok (.baload, 1) := by decide +kernel
theorem dX13_over_139 : decode cX13_over 139 = .ok (.ifCond .eq 21, 3) := by decide +kernel
theorem dX13_over_142 : decode cX13_over 142 = .ok (.aload_n 3, 1) := by decide +kernel
theorem dX13_over_143 : decode cX13_over 143 = .ok (.iload 6, 2) := by decide +kernel
theorem dX13_over_145 : decode cX13_over 145 = .ok (.iaload, 1) := by decide +kernel
theorem dX13_over_146 : decode cX13_over 146 = .ok (.iconst 2, 1) := by decide +kernel
theorem dX13_over_147 : decode cX13_over 147 = .ok (.if_icmp .eq 13, 3) := by decide +kernel
theorem dX13_over_150 : decode cX13_over 150 = .ok (.aload_n 3, 1) := by decide +kernel
theorem dX13_over_151 : decode cX13_over 151 = .ok (.iload 6, 2) := by decide +kernel
theorem dX13_over_153 : decode cX13_over 153 = .ok (.iconst 1, 1) := by decide +kernel
theorem dX13_over_154 : decode cX13_over 154 = .ok (.aload_n 3, 1) := by decide +kernel
theorem dX13_over_155 : decode cX13_over 155 = .ok (.iload 6, 2) := by decide +kernel
theorem dX13_over_157 : decode cX13_over 157 = .ok (.iaload, 1) := by decide +kernel
theorem dX13_over_158 : decode cX13_over 158 = .ok (.isub, 1) := by decide +kernel
theorem dX13_over_159 : decode cX13_over 159 = .ok (.iastore, 1) := by decide +kernel
theorem dX13_over_160 : decode cX13_over 160 = .ok (.iinc 6 1, 3) := by decide +kernel
theorem dX13_over_163 : decode cX13_over 163 = .ok (.goto (-146), 3) := by decide +kernel
theorem dX13_over_166 : decode cX13_over 166 = .ok (.aload_n 3, 1) := by decide +kernel
theorem dX13_over_167 : decode cX13_over 167 = .ok (.areturn, 1) := by decide +kernel
theorem dX13_comes_0 : decode cX13_comes 0 = .ok (.aload_n 1, 1) := by decide +kernel
theorem dX13_comes_1 : decode cX13_comes 1 = .ok (.aload_n 0, 1) := by decide +kernel
theorem dX13_comes_2 : decode cX13_comes 2 = .ok (.getfield 20, 3) := by decide +kernel
theorem dX13_comes_5 : decode cX13_comes 5 = .ok (.aload_n 0, 1) := by decide +kernel
theorem dX13_comes_6 : decode cX13_comes 6 = .ok (.getfield 23, 3) := by decide +kernel
theorem dX13_comes_9 : decode cX13_comes 9 = .ok (.invokestatic 72, 3) := by decide +kernel
theorem dX13_comes_12 : decode cX13_comes 12 = .ok (.areturn, 1) := by decide +kernel
theorem dX13_upwards_0 : decode cX13_upwards 0 = .ok (.aload_n 0, 1) := by decide +kernel
theorem dX13_upwards_1 : decode cX13_upwards 1 = .ok (.getfield 16, 3) := by decide +kernel
theorem dX13_upwards_4 : decode cX13_upwards 4 = .ok (.invokevirtual 39, 3) := by decide +kernel
theorem dX13_upwards_7 : decode cX13_upwards 7 = .ok (.iconst 1, 1) := by decide +kernel
theorem dX13_upwards_8 : decode cX13_upwards 8 = .ok (.iadd, 1) := by decide +kernel
theorem dX13_upwards_9 : decode cX13_upwards 9 = .ok (.anewarray 49, 3) := by decide +kernel
theorem dX13_upwards_12 : decode cX13_upwards 12 = .ok (.astore_n 3, 1) := by decide +kernel
theorem dX13_upwards_13 : decode cX13_upwards 13 = .ok (.aload_n 3, 1) := by decide +kernel
theorem dX13_upwards_14 : decode cX13_upwards 14 = .ok (.aload_n 0, 1) := by decide +kernel
theorem dX13_upwards_15 : decode cX13_upwards 15 = .ok (.getfield 16, 3) := by decide +kernel
theorem dX13_upwards_18 : decode cX13_upwards 18 = .ok (.invokevirtual 39, 3) := by decide +kernel
theorem dX13_upwards_21 : decode cX13_upwards 21 = .ok (.aload_n 1, 1) := by decide +kernel
theorem dX13_upwards_22 : decode cX13_upwards 22 = .ok (.aastore, 1) := by decide +kernel
theorem dX13_upwards_23 : decode cX13_upwards 23 = .ok (.aload_n 0, 1) := by decide +kernel
theorem dX13_upwards_24 : decode cX13_upwards 24 = .ok (.getfield 16, 3) := by decide +kernel
theorem dX13_upwards_27 : decode cX13_upwards 27 = .ok (.invokevirtual 39, 3) := by decide +kernel
theorem dX13_upwards_30 : decode cX13_upwards 30 = .ok (.iconst 1, 1) := by decide +kernel
theorem dX13_upwards_31 : decode cX13_upwards 31 = .ok (.isub, 1) := by decide +kernel
theorem dX13_upwards_32 : decode cX13_upwards 32 = .ok (.istore 4, 2) := by decide +kernel
theorem dX13_upwards_34 : decode cX13_upwards 34 = .ok (.iload 4, 2) := by decide +kernel
theorem dX13_upwards_36 : decode cX13_upwards 36 = .ok (.ifCond .lt 44, 3) := by decide +kernel
theorem dX13_upwards_39 : decode cX13_upwards 39 = .ok (.aload_n 3, 1) := by decide +kernel
theorem dX13_upwards_40 : decode cX13_upwards 40 = .ok (.iload 4, 2) := by decide +kernel
theorem dX13_upwards_42 : decode cX13_upwards 42 = .ok (.aload_n 0, 1) := by decide +kernel
theorem dX13_upwards_43 : decode cX13_upwards 43 = .ok (.getfield 16, 3) := by decide +kernel
theorem dX13_upwards_46 : decode cX13_upwards 46 = .ok (.iload 4, 2) := by decide +kernel
theorem dX13_upwards_48 : decode cX13_upwards 48 = .ok (.invokevirtual 43, 3) := by decide +kernel
theorem dX13_upwards_51 : decode cX13_upwards 51 = .ok (.checkcast 47, 3) := by decide +kernel
theorem dX13_upwards_54 : decode cX13_upwards 54 = .ok (.aload_n 3, 1) := by decide +kernel
theorem dX13_upwards_55 : decode cX13_upwards 55 = .ok (.iload 4, 2) := by decide +kernel
theorem dX13_upwards_57 : decode cX13_upwards 57 = .ok (.iconst 1, 1) := by decide +kernel
theorem dX13_upwards_58 : decode cX13_upwards 58 = .ok (.iadd, 1) := by decide +kernel
theorem dX13_upwards_59 : decode cX13_upwards 59 = .ok (.aaload, 1) := by decide +kernel
theorem dX13_upwards_60 : decode cX13_upwards 60 = .ok (.aload_n 2, 1) := by decide +kernel
theorem dX13_upwards_61 : decode cX13_upwards 61 = .ok (.iload 4, 2) := by decide +kernel
theorem dX13_upwards_63 : decode cX13_upwards 63 = .ok (.invokevirtual 43, 3) := by decide +kernel
theorem dX13_upwards_66 : decode cX13_upwards 66 = .ok (.checkcast 49, 3) := by decide +kernel
theorem dX13_upwards_69 : decode cX13_upwards 69 = .ok (.arraylength, 1) := by decide +kernel
theorem dX13_upwards_70 : decode cX13_upwards 70 = .ok (.invokevirtual 76, 3) := by decide +kernel
theorem dX13_upwards_73 : decode cX13_upwards 73 = .ok (.aastore, 1) := by decide +kernel
theorem dX13_upwards_74 : decode cX13_upwards 74 = .ok (.iinc 4 (-1), 3) := by decide +kernel
theorem dX13_upwards_77 : decode cX13_upwards 77 = .ok (.goto (-43), 3) := by decide +kernel
theorem dX13_upwards_80 : decode cX13_upwards 80 = .ok (.aload_n 3, 1) := by decide +kernel
theorem dX13_upwards_81 : decode cX13_upwards 81 = .ok (.areturn, 1) := by decide +kernel
theorem dX13_others_0 : decode cX13_others 0 = .ok (.iconst 0, 1) := by decide +kernel
theorem dX13_others_1 : decode cX13_others 1 = .ok (.istore_n 2, 1) := by decide +kernel
theorem dX13_others_2 : decode cX13_others 2 = .ok (.iconst 0, 1) := by decide +kernel
theorem dX13_others_3 : decode cX13_others 3 = .ok (.istore_n 3, 1) := by decide +kernel
theorem dX13_others_4 : decode cX13_others 4 = .ok (.iload_n 3, 1) := by decide +kernel
theorem dX13_others_5 : decode cX13_others 5 = .ok (.aload_n 0, 1) := by decide +kernel
theorem dX13_others_6 : decode cX13_others 6 = .ok (.arraylength, 1) := by decide +kernel
theorem dX13_others_7 : decode cX13_others 7 = .ok (.if_icmp .ge 26, 3) := by decide +kernel
theorem dX13_others_10 : decode cX13_others 10 = .ok (.iload_n 2, 1) := by decide +kernel
theorem dX13_others_11 : decode cX13_others 11 = .ok (.aload_n 0, 1) := by decide +kernel
theorem dX13_others_12 : decode cX13_others 12 = .ok (.iload_n 3, 1) := by decide +kernel
theorem dX13_others_13 : decode cX13_others 13 = .ok (.iaload, 1) := by decide +kernel
theorem dX13_others_14 : decode cX13_others 14 = .ok (.aload_n 1, 1) := by decide +kernel
theorem dX13_others_15 : decode cX13_others 15 = .ok (.iload_n 3, 1) := by decide +kernel
theorem dX13_others_16 : decode cX13_others 16 = .ok (.iaload, 1) := by decide +kernel
theorem dX13_others_17 : decode cX13_others 17 = .ok (.if_icmp .eq 7, 3) := by decide +kernel
theorem dX13_others_20 : decode cX13_others 20 = .ok (.iconst 1, 1) := by decide +kernel
theorem dX13_others_21 : decode cX13_others 21 = .ok (.goto 4, 3) := by decide +kernel
theorem dX13_others_24 : decode cX13_others 24 = .ok (.iconst 0, 1) := by decide +kernel
theorem dX13_others_25 : decode cX13_others 25 = .ok (.iadd, 1) := by decide +kernel
theorem dX13_others_26 : decode cX13_others 26 = .ok (.istore_n 2, 1) := by decide +kernel
theorem dX13_others_27 : decode cX13_others 27 = .ok (.iinc 3 1, 3) := by decide +kernel
theorem dX13_others_30 : decode cX13_others 30 = .ok (.goto (-26), 3) := by decide +kernel
theorem dX13_others_33 : decode cX13_others 33 = .ok (.iload_n 2, 1) := by decide +kernel
theorem dX13_others_34 : decode cX13_others 34 = .ok (.ireturn, 1) := by decide +kernel
theorem dX13_errorsOf_0 : decode cX13_errorsOf 0 = .ok (.aload_n 0, 1) := by decide +kernel
theorem dX13_errorsOf_1 : decode cX13_errorsOf 1 = .ok (.aload_n 1, 1) := by decide +kernel
theorem dX13_errorsOf_2 : decode cX13_errorsOf 2 = .ok (.aload_n 2, 1) := by decide +kernel
theorem dX13_errorsOf_3 : decode cX13_errorsOf 3 = .ok (.invokevirtual 80, 3) := by decide +kernel
theorem dX13_errorsOf_6 : decode cX13_errorsOf 6 = .ok (.iconst 0, 1) := by decide +kernel
theorem dX13_errorsOf_7 : decode cX13_errorsOf 7 = .ok (.aaload, 1) := by decide +kernel
theorem dX13_errorsOf_8 : decode cX13_errorsOf 8 = .ok (.aload_n 0, 1) := by decide +kernel
theorem dX13_errorsOf_9 : decode cX13_errorsOf 9 = .ok (.getfield 7, 3) := by decide +kernel
theorem dX13_errorsOf_12 : decode cX13_errorsOf 12 = .ok (.invokestatic 84, 3) := by decide +kernel
theorem dX13_errorsOf_15 : decode cX13_errorsOf 15 = .ok (.ireturn, 1) := by decide +kernel
theorem dX13_errorsNow_0 : decode cX13_errorsNow 0 = .ok (.aload_n 0, 1) := by decide +kernel
theorem dX13_errorsNow_1 : decode cX13_errorsNow 1 = .ok (.aload_n 0, 1) := by decide +kernel
theorem dX13_errorsNow_2 : decode cX13_errorsNow 2 = .ok (.getfield 7, 3) := by decide +kernel
theorem dX13_errorsNow_5 : decode cX13_errorsNow 5 = .ok (.invokevirtual 54, 3) := by decide +kernel
theorem dX13_errorsNow_8 : decode cX13_errorsNow 8 = .ok (.astore_n 1, 1) := by decide +kernel
theorem dX13_errorsNow_9 : decode cX13_errorsNow 9 = .ok (.aload_n 0, 1) := by decide +kernel
theorem dX13_errorsNow_10 : decode cX13_errorsNow 10 = .ok (.aload_n 0, 1) := by decide +kernel
theorem dX13_errorsNow_11 : decode cX13_errorsNow 11 = .ok (.aload_n 1, 1) := by decide +kernel
theorem dX13_errorsNow_12 : decode cX13_errorsNow 12 = .ok (.aload_n 0, 1) := by decide +kernel
theorem dX13_errorsNow_13 : decode cX13_errorsNow 13 = .ok (.getfield 16, 3) := by decide +kernel
theorem dX13_errorsNow_16 : decode cX13_errorsNow 16 = .ok (.invokevirtual 39, 3) := by decide +kernel
theorem dX13_errorsNow_19 : decode cX13_errorsNow 19 = .ok (.invokevirtual 43, 3) := by decide +kernel
theorem dX13_errorsNow_22 : decode cX13_errorsNow 22 = .ok (.checkcast 49, 3) := by decide +kernel
theorem dX13_errorsNow_25 : decode cX13_errorsNow 25 = .ok (.invokevirtual 88, 3) := by decide +kernel
theorem dX13_errorsNow_28 : decode cX13_errorsNow 28 = .ok (.aload_n 1, 1) := by decide +kernel
theorem dX13_errorsNow_29 : decode cX13_errorsNow 29 = .ok (.invokevirtual 91, 3) := by decide +kernel
theorem dX13_errorsNow_32 : decode cX13_errorsNow 32 = .ok (.ireturn, 1) := by decide +kernel
theorem dX13_isTooMuch_0 : decode cX13_isTooMuch 0 = .ok (.aload_n 0, 1) := by decide +kernel
theorem dX13_isTooMuch_1 : decode cX13_isTooMuch 1 = .ok (.aload_n 1, 1) := by decide +kernel
theorem dX13_isTooMuch_2 : decode cX13_isTooMuch 2 = .ok (.invokevirtual 54, 3) := by decide +kernel
theorem dX13_isTooMuch_5 : decode cX13_isTooMuch 5 = .ok (.aload_n 0, 1) := by decide +kernel
theorem dX13_isTooMuch_6 : decode cX13_isTooMuch 6 = .ok (.getfield 16, 3) := by decide +kernel
theorem dX13_isTooMuch_9 : decode cX13_isTooMuch 9 = .ok (.invokevirtual 39, 3) := by decide +kernel
theorem dX13_isTooMuch_12 : decode cX13_isTooMuch 12 = .ok (.invokevirtual 43, 3) := by decide +kernel
theorem dX13_isTooMuch_15 : decode cX13_isTooMuch 15 = .ok (.checkcast 49, 3) := by decide +kernel
theorem dX13_isTooMuch_18 : decode cX13_isTooMuch 18 = .ok (.arraylength, 1) := by decide +kernel
theorem dX13_isTooMuch_19 : decode cX13_isTooMuch 19 = .ok (.sipush 320, 3) := by decide +kernel
theorem dX13_isTooMuch_22 : decode cX13_isTooMuch 22 = .ok (.if_icmp .le 7, 3) := by decide +kernel
theorem dX13_isTooMuch_25 : decode cX13_isTooMuch 25 = .ok (.iconst 1, 1) := by decide +kernel
theorem dX13_isTooMuch_26 : decode cX13_isTooMuch 26 = .ok (.goto 4, 3) := by decide +kernel
theorem dX13_isTooMuch_29 : decode cX13_isTooMuch 29 = .ok (.iconst 0, 1) := by decide +kernel
theorem dX13_isTooMuch_30 : decode cX13_isTooMuch 30 = .ok (.ireturn, 1) := by decide +kernel
theorem dX13_write_0 : decode cX13_write 0 = .ok (.aload_n 0, 1) := by decide +kernel
theorem dX13_write_1 : decode cX13_write 1 = .ok (.iload_n 2, 1) := by decide +kernel
theorem dX13_write_2 : decode cX13_write 2 = .ok (.iconst 1, 1) := by decide +kernel
theorem dX13_write_3 : decode cX13_write 3 = .ok (.bipush 16, 2) := by decide +kernel
theorem dX13_write_5 : decode cX13_write 5 = .ok (.invokestatic 95, 3) := by decide +kernel
theorem dX13_write_8 : decode cX13_write 8 = .ok (.ifCond .eq 14, 3) := by decide +kernel
theorem dX13_write_11 : decode cX13_write 11 = .ok (.iload_n 1, 1) := by decide +kernel
theorem dX13_write_12 : decode cX13_write 12 = .ok (.ifCond .lt 10, 3) := by decide +kernel
theorem dX13_write_15 : decode cX13_write 15 = .ok (.iload_n 1, 1) := by decide +kernel
theorem dX13_write_16 : decode cX13_write 16 = .ok (.iconst 1, 1) := by decide +kernel
theorem dX13_write_17 : decode cX13_write 17 = .ok (.iload_n 2, 1) := by decide +kernel
theorem dX13_write_18 : decode cX13_write 18 = .ok (.ishl, 1) := by decide +kernel
theorem dX13_write_19 : decode cX13_write 19 = .ok (.if_icmp .lt 7, 3) := by decide +kernel
theorem dX13_write_22 : decode cX13_write 22 = .ok (.iconst 1, 1) := by decide +kernel
theorem dX13_write_23 : decode cX13_write 23 = .ok (.goto 4, 3) := by decide +kernel
theorem dX13_write_26 : decode cX13_write 26 = .ok (.iconst 0, 1) := by decide +kernel
theorem dX13_write_27 : decode cX13_write 27 = .ok (.iconst 1, 1) := by decide +kernel
theorem dX13_write_28 : decode cX13_write 28 = .ok (.invokevirtual 99, 3) := by decide +kernel
theorem dX13_write_31 : decode cX13_write 31 = .ok (.ifCond .ne 28, 3) := by decide +kernel
theorem dX13_write_34 : decode cX13_write 34 = .ok (.aload_n 0, 1) := by decide +kernel
theorem dX13_write_35 : decode cX13_write 35 = .ok (.aload_n 0, 1) := by decide +kernel
theorem dX13_write_36 : decode cX13_write 36 = .ok (.getfield 7, 3) := by decide +kernel
theorem dX13_write_39 : decode cX13_write 39 = .ok (.arraylength, 1) := by decide +kernel
theorem dX13_write_40 : decode cX13_write 40 = .ok (.iload_n 2, 1) := by decide +kernel
theorem dX13_write_41 : decode cX13_write 41 = .ok (.iadd, 1) := by decide +kernel
theorem dX13_write_42 : decode cX13_write 42 = .ok (.bipush 32, 2) := by decide +kernel
theorem dX13_write_44 : decode cX13_write 44 = .ok (.if_icmp .le 7, 3) := by decide +kernel
theorem dX13_write_47 : decode cX13_write 47 = .ok (.iconst 1, 1) := by decide +kernel
theorem dX13_write_48 : decode cX13_write 48 = .ok (.goto 4, 3) := by decide +kernel
theorem dX13_write_51 : decode cX13_write 51 = .ok (.iconst 0, 1) := by decide +kernel
theorem dX13_write_52 : decode cX13_write 52 = .ok (.iconst 2, 1) := by decide +kernel
theorem dX13_write_53 : decode cX13_write 53 = .ok (.invokevirtual 31, 3) := by decide +kernel
theorem dX13_write_56 : decode cX13_write 56 = .ok (.ifCond .eq 5, 3) := by decide +kernel
theorem dX13_write_59 : decode cX13_write 59 = .ok (.iconst 0, 1) := by decide +kernel
theorem dX13_write_60 : decode cX13_write 60 = .ok (.ireturn, 1) := by decide +kernel
theorem dX13_write_61 : decode cX13_write 61 = .ok (.aload_n 0, 1) := by decide +kernel
theorem dX13_write_62 : decode cX13_write 62 = .ok (.getfield 7, 3) := by decide +kernel
theorem dX13_write_65 : decode cX13_write 65 = .ok (.arraylength, 1) := by decide +kernel
theorem dX13_write_66 : decode cX13_write 66 = .ok (.iload_n 2, 1) := by decide +kernel
theorem dX13_write_67 : decode cX13_write 67 = .ok (.iadd, 1) := by decide +kernel
theorem dX13_write_68 : decode cX13_write 68 = .ok (.newarray .int, 2) := by decide +kernel
theorem dX13_write_70 : decode cX13_write 70 = .ok (.astore_n 3, 1) := by decide +kernel
theorem dX13_write_71 : decode cX13_write 71 = .ok (.aload_n 0, 1) := by decide +kernel
theorem dX13_write_72 : decode cX13_write 72 = .ok (.getfield 7, 3) := by decide +kernel
theorem dX13_write_75 : decode cX13_write 75 = .ok (.iconst 0, 1) := by decide +kernel
theorem dX13_write_76 : decode cX13_write 76 = .ok (.aload_n 3, 1) := by decide +kernel
theorem dX13_write_77 : decode cX13_write 77 = .ok (.iconst 0, 1) := by decide +kernel
theorem dX13_write_78 : decode cX13_write 78 = .ok (.aload_n 0, 1) := by decide +kernel
theorem dX13_write_79 : decode cX13_write 79 = .ok (.getfield 7, 3) := by decide +kernel
theorem dX13_write_82 : decode cX13_write 82 = .ok (.arraylength, 1) := by decide +kernel
theorem dX13_write_83 : decode cX13_write 83 = .ok (.invokestatic 102, 3) := by decide +kernel
theorem dX13_write_86 : decode cX13_write 86 = .ok (.iload_n 1, 1) := by decide +kernel
theorem dX13_write_87 : decode cX13_write 87 = .ok (.aload_n 3, 1) := by decide +kernel
theorem dX13_write_88 : decode cX13_write 88 = .ok (.aload_n 0, 1) := by decide +kernel
theorem dX13_write_89 : decode cX13_write 89 = .ok (.getfield 7, 3) := by decide +kernel
theorem dX13_write_92 : decode cX13_write 92 = .ok (.arraylength, 1) := by decide +kernel
theorem dX13_write_93 : decode cX13_write 93 = .ok (.iload_n 2, 1) := by decide +kernel
theorem dX13_write_94 : decode cX13_write 94 = .ok (.invokestatic 108, 3) := by decide +kernel
theorem dX13_write_97 : decode cX13_write 97 = .ok (.aload_n 0, 1) := by decide +kernel
theorem dX13_write_98 : decode cX13_write 98 = .ok (.aload_n 0, 1) := by decide +kernel
theorem dX13_write_99 : decode cX13_write 99 = .ok (.aload_n 3, 1) := by decide +kernel
theorem dX13_write_100 : decode cX13_write 100 = .ok (.invokevirtual 112, 3) := by decide +kernel
theorem dX13_write_103 : decode cX13_write 103 = .ok (.iconst 2, 1) := by decide +kernel
theorem dX13_write_104 : decode cX13_write 104 = .ok (.invokevirtual 31, 3) := by decide +kernel
theorem dX13_write_107 : decode cX13_write 107 = .ok (.ifCond .eq 5, 3) := by decide +kernel
theorem dX13_write_110 : decode cX13_write 110 = .ok (.iconst 0, 1) := by decide +kernel
theorem dX13_write_111 : decode cX13_write 111 = .ok (.ireturn, 1) := by decide +kernel
theorem dX13_write_112 : decode cX13_write 112 = .ok (.aload_n 0, 1) := by decide +kernel
theorem dX13_write_113 : decode cX13_write 113 = .ok (.aload_n 3, 1) := by decide +kernel
theorem dX13_write_114 : decode cX13_write 114 = .ok (.putfield 7, 3) := by decide +kernel
theorem dX13_write_117 : decode cX13_write 117 = .ok (.aload_n 0, 1) := by decide +kernel
theorem dX13_write_118 : decode cX13_write 118 = .ok (.getfield 7, 3) := by decide +kernel
theorem dX13_write_121 : decode cX13_write 121 = .ok (.arraylength, 1) := by decide +kernel
theorem dX13_write_122 : decode cX13_write 122 = .ok (.ireturn, 1) := by decide +kernel
theorem dX13_clear_0 : decode cX13_clear 0 = .ok (.aload_n 0, 1) := by decide +kernel
theorem dX13_clear_1 : decode cX13_clear 1 = .ok (.getfield 7, 3) := by decide +kernel
theorem dX13_clear_4 : decode cX13_clear 4 = .ok (.arraylength, 1) := by decide +kernel
theorem dX13_clear_5 : decode cX13_clear 5 = .ok (.istore_n 1, 1) := by decide +kernel
theorem dX13_clear_6 : decode cX13_clear 6 = .ok (.aload_n 0, 1) := by decide +kernel
theorem dX13_clear_7 : decode cX13_clear 7 = .ok (.iconst 0, 1) := by decide +kernel
theorem dX13_clear_8 : decode cX13_clear 8 = .ok (.newarray .int, 2) := by decide +kernel
theorem dX13_clear_10 : decode cX13_clear 10 = .ok (.putfield 7, 3) := by decide +kernel
theorem dX13_clear_13 : decode cX13_clear 13 = .ok (.aload_n 0, 1) := by decide +kernel
theorem dX13_clear_14 : decode cX13_clear 14 = .ok (.iload_n 1, 1) := by decide +kernel
theorem dX13_clear_15 : decode cX13_clear 15 = .ok (.invokevirtual 116, 3) := by decide +kernel
theorem dX13_clear_18 : decode cX13_clear 18 = .ok (.ireturn, 1) := by decide +kernel
theorem dX13_add_0 : decode cX13_add 0 = .ok (.aload_n 0, 1) := by decide +kernel
theorem dX13_add_1 : decode cX13_add 1 = .ok (.aload_n 0, 1) := by decide +kernel
theorem dX13_add_2 : decode cX13_add 2 = .ok (.getfield 16, 3) := by decide +kernel
theorem dX13_add_5 : decode cX13_add 5 = .ok (.invokevirtual 39, 3) := by decide +kernel
theorem dX13_add_8 : decode cX13_add 8 = .ok (.iconst 4, 1) := by decide +kernel
theorem dX13_add_9 : decode cX13_add 9 = .ok (.if_icmp .ne 7, 3) := by decide +kernel
theorem dX13_add_12 : decode cX13_add 12 = .ok (.iconst 1, 1) := by decide +kernel
theorem dX13_add_13 : decode cX13_add 13 = .ok (.goto 4, 3) := by decide +kernel
theorem dX13_add_16 : decode cX13_add 16 = .ok (.iconst 0, 1) := by decide +kernel
theorem dX13_add_17 : decode cX13_add 17 = .ok (.iconst 2, 1) := by decide +kernel
theorem dX13_add_18 : decode cX13_add 18 = .ok (.invokevirtual 31, 3) := by decide +kernel
theorem dX13_add_21 : decode cX13_add 21 = .ok (.ifCond .eq 5, 3) := by decide +kernel
theorem dX13_add_24 : decode cX13_add 24 = .ok (.iconst 0, 1) := by decide +kernel
theorem dX13_add_25 : decode cX13_add 25 = .ok (.ireturn, 1) := by decide +kernel
theorem dX13_add_26 : decode cX13_add 26 = .ok (.aload_n 0, 1) := by decide +kernel
theorem dX13_add_27 : decode cX13_add 27 = .ok (.getfield 16, 3) := by decide +kernel
theorem dX13_add_30 : decode cX13_add 30 = .ok (.aload_n 1, 1) := by decide +kernel
theorem dX13_add_31 : decode cX13_add 31 = .ok (.invokevirtual 35, 3) := by decide +kernel
theorem dX13_add_34 : decode cX13_add 34 = .ok (.pop, 1) := by decide +kernel
theorem dX13_add_35 : decode cX13_add 35 = .ok (.aload_n 0, 1) := by decide +kernel
theorem dX13_add_36 : decode cX13_add 36 = .ok (.invokevirtual 120, 3) := by decide +kernel
theorem dX13_add_39 : decode cX13_add 39 = .ok (.arraylength, 1) := by decide +kernel
theorem dX13_add_40 : decode cX13_add 40 = .ok (.istore_n 2, 1) := by decide +kernel
theorem dX13_add_41 : decode cX13_add 41 = .ok (.iload_n 2, 1) := by decide +kernel
theorem dX13_add_42 : decode cX13_add 42 = .ok (.sipush 320, 3) := by decide +kernel
theorem dX13_add_45 : decode cX13_add 45 = .ok (.if_icmp .gt 5, 3) := by decide +kernel
theorem dX13_add_48 : decode cX13_add 48 = .ok (.iload_n 2, 1) := by decide +kernel
theorem dX13_add_49 : decode cX13_add 49 = .ok (.ireturn, 1) := by decide +kernel
theorem dX13_add_50 : decode cX13_add 50 = .ok (.aload_n 0, 1) := by decide +kernel
theorem dX13_add_51 : decode cX13_add 51 = .ok (.getfield 16, 3) := by decide +kernel
theorem dX13_add_54 : decode cX13_add 54 = .ok (.aload_n 0, 1) := by decide +kernel
theorem dX13_add_55 : decode cX13_add 55 = .ok (.getfield 16, 3) := by decide +kernel
theorem dX13_add_58 : decode cX13_add 58 = .ok (.invokevirtual 39, 3) := by decide +kernel
theorem dX13_add_61 : decode cX13_add 61 = .ok (.iconst 1, 1) := by decide +kernel
theorem dX13_add_62 : decode cX13_add 62 = .ok (.isub, 1) := by decide +kernel
theorem dX13_add_63 : decode cX13_add 63 = .ok (.invokevirtual 124, 3) := by decide +kernel
theorem dX13_add_66 : decode cX13_add 66 = .ok (.pop, 1) := by decide +kernel
theorem dX13_add_67 : decode cX13_add 67 = .ok (.aload_n 0, 1) := by decide +kernel
theorem dX13_add_68 : decode cX13_add 68 = .ok (.iconst 1, 1) := by decide +kernel
theorem dX13_add_69 : decode cX13_add 69 = .ok (.iconst 2, 1) := by decide +kernel
theorem dX13_add_70 : decode cX13_add 70 = .ok (.invokevirtual 31, 3) := by decide +kernel
theorem dX13_add_73 : decode cX13_add 73 = .ok (.pop, 1) := by decide +kernel
theorem dX13_add_74 : decode cX13_add 74 = .ok (.iconst 0, 1) := by decide +kernel
theorem dX13_add_75 : decode cX13_add 75 = .ok (.ireturn, 1) := by decide +kernel
theorem dX13_repeat_0 : decode cX13_repeat 0 = .ok (.aload_n 0, 1) := by decide +kernel
theorem dX13_repeat_1 : decode cX13_repeat 1 = .ok (.iload_n 1, 1) := by decide +kernel
theorem dX13_repeat_2 : decode cX13_repeat 2 = .ok (.iconst 2, 1) := by decide +kernel
theorem dX13_repeat_3 : decode cX13_repeat 3 = .ok (.iconst 5, 1) := by decide +kernel
theorem dX13_repeat_4 : decode cX13_repeat 4 = .ok (.invokestatic 95, 3) := by decide +kernel
theorem dX13_repeat_7 : decode cX13_repeat 7 = .ok (.ifCond .ne 7, 3) := by decide +kernel
theorem dX13_repeat_10 : decode cX13_repeat 10 = .ok (.iconst 1, 1) := by decide +kernel
theorem dX13_repeat_11 : decode cX13_repeat 11 = .ok (.goto 4, 3) := by decide +kernel
theorem dX13_repeat_14 : decode cX13_repeat 14 = .ok (.iconst 0, 1) := by decide +kernel
theorem dX13_repeat_15 : decode cX13_repeat 15 = .ok (.iconst 1, 1) := by decide +kernel
theorem dX13_repeat_16 : decode cX13_repeat 16 = .ok (.invokevirtual 99, 3) := by decide +kernel
theorem dX13_repeat_19 : decode cX13_repeat 19 = .ok (.ifCond .eq 7, 3) := by decide +kernel
theorem dX13_repeat_22 : decode cX13_repeat 22 = .ok (.iconst 0, 1) := by decide +kernel
theorem dX13_repeat_23 : decode cX13_repeat 23 = .ok (.goto 20, 3) := by decide +kernel
theorem dX13_repeat_26 : decode cX13_repeat 26 = .ok (.aload_n 0, 1) := by decide +kernel
theorem dX13_repeat_27 : decode cX13_repeat 27 = .ok (.new 47, 3) := by decide +kernel
theorem dX13_repeat_30 : decode cX13_repeat 30 = .ok (.dup, 1) := by decide +kernel
theorem dX13_repeat_31 : decode cX13_repeat 31 = .ok (.iconst 0, 1) := by decide +kernel
theorem dX13_repeat_32 : decode cX13_repeat 32 = .ok (.iload_n 1, 1) := by decide +kernel
theorem dX13_repeat_33 : decode cX13_repeat 33 = .ok (.iconst 0, 1) := by decide +kernel
theorem dX13_repeat_34 : decode cX13_repeat 34 = .ok (.iconst 0, 1) := by decide +kernel
theorem dX13_repeat_35 : decode cX13_repeat 35 = .ok (.newarray .int, 2) := by decide +kernel
theorem dX13_repeat_37 : decode cX13_repeat 37 = .ok (.invokespecial 127, 3) := by decide +kernel
theorem dX13_repeat_40 : decode cX13_repeat 40 = .ok (.invokevirtual 130, 3) := by decide +kernel
theorem dX13_repeat_43 : decode cX13_repeat 43 = .ok (.ireturn, 1) := by decide +kernel
theorem dX13_block_0 : decode cX13_block 0 = .ok (.aload_n 0, 1) := by decide +kernel
theorem dX13_block_1 : decode cX13_block 1 = .ok (.iload_n 1, 1) := by decide +kernel
theorem dX13_block_2 : decode cX13_block 2 = .ok (.iconst 1, 1) := by decide +kernel
theorem dX13_block_3 : decode cX13_block 3 = .ok (.iconst 4, 1) := by decide +kernel
theorem dX13_block_4 : decode cX13_block 4 = .ok (.invokestatic 95, 3) := by decide +kernel
theorem dX13_block_7 : decode cX13_block 7 = .ok (.ifCond .eq 13, 3) := by decide +kernel
theorem dX13_block_10 : decode cX13_block 10 = .ok (.iload_n 2, 1) := by decide +kernel
theorem dX13_block_11 : decode cX13_block 11 = .ok (.iload_n 1, 1) := by decide +kernel
theorem dX13_block_12 : decode cX13_block 12 = .ok (.bipush 10, 2) := by decide +kernel
theorem dX13_block_14 : decode cX13_block 14 = .ok (.invokestatic 95, 3) := by decide +kernel
theorem dX13_block_17 : decode cX13_block 17 = .ok (.ifCond .ne 7, 3) := by decide +kernel
theorem dX13_block_20 : decode cX13_block 20 = .ok (.iconst 1, 1) := by decide +kernel
theorem dX13_block_21 : decode cX13_block 21 = .ok (.goto 4, 3) := by decide +kernel
theorem dX13_block_24 : decode cX13_block 24 = .ok (.iconst 0, 1) := by decide +kernel
theorem dX13_block_25 : decode cX13_block 25 = .ok (.iconst 1, 1) := by decide +kernel
theorem dX13_block_26 : decode cX13_block 26 = .ok (.invokevirtual 99, 3) := by decide +kernel
theorem dX13_block_29 : decode cX13_block 29 = .ok (.ifCond .eq 5, 3) := by decide +kernel
theorem dX13_block_32 : decode cX13_block 32 = .ok (.iconst 0, 1) := by decide +kernel
theorem dX13_block_33 : decode cX13_block 33 = .ok (.ireturn, 1) := by decide +kernel
theorem dX13_block_34 : decode cX13_block 34 = .ok (.iconst 4, 1) := by decide +kernel
theorem dX13_block_35 : decode cX13_block 35 = .ok (.newarray .int, 2) := by decide +kernel
theorem dX13_block_37 : decode cX13_block 37 = .ok (.dup, 1) := by decide +kernel
theorem dX13_block_38 : decode cX13_block 38 = .ok (.iconst 0, 1) := by decide +kernel
theorem dX13_block_39 : decode cX13_block 39 = .ok (.iload_n 3, 1) := by decide +kernel
theorem dX13_block_40 : decode cX13_block 40 = .ok (.iastore, 1) := by decide +kernel
theorem dX13_block_41 : decode cX13_block 41 = .ok (.dup, 1) := by decide +kernel
theorem dX13_block_42 : decode cX13_block 42 = .ok (.iconst 1, 1) := by decide +kernel
theorem dX13_block_43 : decode cX13_block 43 = .ok (.iload 4, 2) := by decide +kernel
theorem dX13_block_45 : decode cX13_block 45 = .ok (.iastore, 1) := by decide +kernel
theorem dX13_block_46 : decode cX13_block 46 = .ok (.dup, 1) := by decide +kernel
theorem dX13_block_47 : decode cX13_block 47 = .ok (.iconst 2, 1) := by decide +kernel
theorem dX13_block_48 : decode cX13_block 48 = .ok (.iload 5, 2) := by decide +kernel
theorem dX13_block_50 : decode cX13_block 50 = .ok (.iastore, 1) := by decide +kernel
theorem dX13_block_51 : decode cX13_block 51 = .ok (.dup, 1) := by decide +kernel
theorem dX13_block_52 : decode cX13_block 52 = .ok (.iconst 3, 1) := by decide +kernel
theorem dX13_block_53 : decode cX13_block 53 = .ok (.iload 6, 2) := by decide +kernel
theorem dX13_block_55 : decode cX13_block 55 = .ok (.iastore, 1) := by decide +kernel
theorem dX13_block_56 : decode cX13_block 56 = .ok (.astore 7, 2) := by decide +kernel
theorem dX13_block_58 : decode cX13_block 58 = .ok (.iload_n 1, 1) := by decide +kernel
theorem dX13_block_59 : decode cX13_block 59 = .ok (.newarray .int, 2) := by decide +kernel
theorem dX13_block_61 : decode cX13_block 61 = .ok (.astore 8, 2) := by decide +kernel
theorem dX13_block_63 : decode cX13_block 63 = .ok (.iconst 0, 1) := by decide +kernel
theorem dX13_block_64 : decode cX13_block 64 = .ok (.istore 9, 2) := by decide +kernel
theorem dX13_block_66 : decode cX13_block 66 = .ok (.iload 9, 2) := by decide +kernel
theorem dX13_block_68 : decode cX13_block 68 = .ok (.iload_n 1, 1) := by decide +kernel
theorem dX13_block_69 : decode cX13_block 69 = .ok (.if_icmp .ge 51, 3) := by decide +kernel
theorem dX13_block_72 : decode cX13_block 72 = .ok (.aload_n 0, 1) := by decide +kernel
theorem dX13_block_73 : decode cX13_block 73 = .ok (.aload 7, 2) := by decide +kernel
theorem dX13_block_75 : decode cX13_block 75 = .ok (.iload 9, 2) := by decide +kernel
theorem dX13_block_77 : decode cX13_block 77 = .ok (.iaload, 1) := by decide +kernel
theorem dX13_block_78 : decode cX13_block 78 = .ok (.iconst 0, 1) := by decide +kernel
theorem dX13_block_79 : decode cX13_block 79 = .ok (.iconst 1, 1) := by decide +kernel
theorem dX13_block_80 : decode cX13_block 80 = .ok (.iload_n 2, 1) := by decide +kernel
theorem dX13_block_81 : decode cX13_block 81 = .ok (.ishl, 1) := by decide +kernel
theorem dX13_block_82 : decode cX13_block 82 = .ok (.iconst 1, 1) := by decide +kernel
theorem dX13_block_83 : decode cX13_block 83 = .ok (.isub, 1) := by decide +kernel
theorem dX13_block_84 : decode cX13_block 84 = .ok (.invokestatic 95, 3) := by decide +kernel
theorem dX13_block_87 : decode cX13_block 87 = .ok (.ifCond .ne 7, 3) := by decide +kernel
theorem dX13_block_90 : decode cX13_block 90 = .ok (.iconst 1, 1) := by decide +kernel
theorem dX13_block_91 : decode cX13_block 91 = .ok (.goto 4, 3) := by decide +kernel
theorem dX13_block_94 : decode cX13_block 94 = .ok (.iconst 0, 1) := by decide +kernel
theorem dX13_block_95 : decode cX13_block 95 = .ok (.iconst 1, 1) := by decide +kernel
theorem dX13_block_96 : decode cX13_block 96 = .ok (.invokevirtual 31, 3) := by decide +kernel
theorem dX13_block_99 : decode cX13_block 99 = .ok (.ifCond .eq 5, 3) := by decide +kernel
theorem dX13_block_102 : decode cX13_block 102 = .ok (.iconst 0, 1) := by decide +kernel
theorem dX13_block_103 : decode cX13_block 103 = .ok (.ireturn, 1) := by decide +kernel
theorem dX13_block_104 : decode cX13_block 104 = .ok (.aload 8, 2) := by decide +kernel
theorem dX13_block_106 : decode cX13_block 106 = .ok (.iload 9, 2) := by decide +kernel
theorem dX13_block_108 : decode cX13_block 108 = .ok (.aload 7, 2) := by decide +kernel
theorem dX13_block_110 : decode cX13_block 110 = .ok (.iload 9, 2) := by decide +kernel
theorem dX13_block_112 : decode cX13_block 112 = .ok (.iaload, 1) := by decide +kernel
theorem dX13_block_113 : decode cX13_block 113 = .ok (.iastore, 1) := by decide +kernel
theorem dX13_block_114 : decode cX13_block 114 = .ok (.iinc 9 1, 3) := by decide +kernel
theorem dX13_block_117 : decode cX13_block 117 = .ok (.goto (-51), 3) := by decide +kernel
theorem dX13_block_120 : decode cX13_block 120 = .ok (.aload_n 0, 1) := by decide +kernel
theorem dX13_block_121 : decode cX13_block 121 = .ok (.new 47, 3) := by decide +kernel
theorem dX13_block_124 : decode cX13_block 124 = .ok (.dup, 1) := by decide +kernel
theorem dX13_block_125 : decode cX13_block 125 = .ok (.iconst 1, 1) := by decide +kernel
theorem dX13_block_126 : decode cX13_block 126 = .ok (.iload_n 1, 1) := by decide +kernel
theorem dX13_block_127 : decode cX13_block 127 = .ok (.iload_n 2, 1) := by decide +kernel
theorem dX13_block_128 : decode cX13_block 128 = .ok (.aload 8, 2) := by decide +kernel
theorem dX13_block_130 : decode cX13_block 130 = .ok (.invokespecial 127, 3) := by decide +kernel
theorem dX13_block_133 : decode cX13_block 133 = .ok (.invokevirtual 130, 3) := by decide +kernel
theorem dX13_block_136 : decode cX13_block 136 = .ok (.ireturn, 1) := by decide +kernel
theorem dX13_check_0 : decode cX13_check 0 = .ok (.aload_n 0, 1) := by decide +kernel
theorem dX13_check_1 : decode cX13_check 1 = .ok (.iload_n 1, 1) := by decide +kernel
theorem dX13_check_2 : decode cX13_check 2 = .ok (.iconst 2, 1) := by decide +kernel
theorem dX13_check_3 : decode cX13_check 3 = .ok (.sipush 511, 3) := by decide +kernel
theorem dX13_check_6 : decode cX13_check 6 = .ok (.invokestatic 95, 3) := by decide +kernel
theorem dX13_check_9 : decode cX13_check 9 = .ok (.ifCond .eq 13, 3) := by decide +kernel
theorem dX13_check_12 : decode cX13_check 12 = .ok (.iload_n 2, 1) := by decide +kernel
theorem dX13_check_13 : decode cX13_check 13 = .ok (.iconst 1, 1) := by decide +kernel
theorem dX13_check_14 : decode cX13_check 14 = .ok (.bipush 32, 2) := by decide +kernel
theorem dX13_check_16 : decode cX13_check 16 = .ok (.invokestatic 95, 3) := by decide +kernel
theorem dX13_check_19 : decode cX13_check 19 = .ok (.ifCond .ne 7, 3) := by decide +kernel
theorem dX13_check_22 : decode cX13_check 22 = .ok (.iconst 1, 1) := by decide +kernel
theorem dX13_check_23 : decode cX13_check 23 = .ok (.goto 4, 3) := by decide +kernel
theorem dX13_check_26 : decode cX13_check 26 = .ok (.iconst 0, 1) := by decide +kernel
theorem dX13_check_27 : decode cX13_check 27 = .ok (.iconst 1, 1) := by decide +kernel
theorem dX13_check_28 : decode cX13_check 28 = .ok (.invokevirtual 99, 3) := by decide +kernel
theorem dX13_check_31 : decode cX13_check 31 = .ok (.ifCond .eq 7, 3) := by decide +kernel
theorem dX13_check_34 : decode cX13_check 34 = .ok (.iconst 0, 1) := by decide +kernel
theorem dX13_check_35 : decode cX13_check 35 = .ok (.goto 20, 3) := by decide +kernel
theorem dX13_check_38 : decode cX13_check 38 = .ok (.aload_n 0, 1) := by decide +kernel
theorem dX13_check_39 : decode cX13_check 39 = .ok (.new 47, 3) := by decide +kernel
theorem dX13_check_42 : decode cX13_check 42 = .ok (.dup, 1) := by decide +kernel
theorem dX13_check_43 : decode cX13_check 43 = .ok (.iconst 2, 1) := by decide +kernel
theorem dX13_check_44 : decode cX13_check 44 = .ok (.iload_n 1, 1) := by decide +kernel
theorem dX13_check_45 : decode cX13_check 45 = .ok (.iload_n 2, 1) := by decide +kernel
theorem dX13_check_46 : decode cX13_check 46 = .ok (.iconst 0, 1) := by decide +kernel
theorem dX13_check_47 : decode cX13_check 47 = .ok (.newarray .int, 2) := by decide +kernel
theorem dX13_check_49 : decode cX13_check 49 = .ok (.invokespecial 127, 3) := by decide +kernel
theorem dX13_check_52 : decode cX13_check 52 = .ok (.invokevirtual 130, 3) := by decide +kernel
theorem dX13_check_55 : decode cX13_check 55 = .ok (.ireturn, 1) := by decide +kernel
theorem dX13_trail_0 : decode cX13_trail 0 = .ok (.aload_n 0, 1) := by decide +kernel
theorem dX13_trail_1 : decode cX13_trail 1 = .ok (.iload_n 1, 1) := by decide +kernel
theorem dX13_trail_2 : decode cX13_trail 2 = .ok (.iconst 1, 1) := by decide +kernel
theorem dX13_trail_3 : decode cX13_trail 3 = .ok (.iconst 4, 1) := by decide +kernel
theorem dX13_trail_4 : decode cX13_trail 4 = .ok (.invokestatic 95, 3) := by decide +kernel
theorem dX13_trail_7 : decode cX13_trail 7 = .ok (.ifCond .ne 7, 3) := by decide +kernel
theorem dX13_trail_10 : decode cX13_trail 10 = .ok (.iconst 1, 1) := by decide +kernel
theorem dX13_trail_11 : decode cX13_trail 11 = .ok (.goto 4, 3) := by decide +kernel
theorem dX13_trail_14 : decode cX13_trail 14 = .ok (.iconst 0, 1) := by decide +kernel
theorem dX13_trail_15 : decode cX13_trail 15 = .ok (.iconst 1, 1) := by decide +kernel
theorem dX13_trail_16 : decode cX13_trail 16 = .ok (.invokevirtual 99, 3) := by decide +kernel
theorem dX13_trail_19 : decode cX13_trail 19 = .ok (.ifCond .eq 5, 3) := by decide +kernel
theorem dX13_trail_22 : decode cX13_trail 22 = .ok (.iconst 0, 1) := by decide +kernel
theorem dX13_trail_23 : decode cX13_trail 23 = .ok (.ireturn, 1) := by decide +kernel
theorem dX13_trail_24 : decode cX13_trail 24 = .ok (.iconst 2, 1) := by decide +kernel
theorem dX13_trail_25 : decode cX13_trail 25 = .ok (.iload_n 1, 1) := by decide +kernel
theorem dX13_trail_26 : decode cX13_trail 26 = .ok (.ishl, 1) := by decide +kernel
theorem dX13_trail_27 : decode cX13_trail 27 = .ok (.iconst 1, 1) := by decide +kernel
theorem dX13_trail_28 : decode cX13_trail 28 = .ok (.isub, 1) := by decide +kernel
theorem dX13_trail_29 : decode cX13_trail 29 = .ok (.istore 5, 2) := by decide +kernel
theorem dX13_trail_31 : decode cX13_trail 31 = .ok (.aload_n 0, 1) := by decide +kernel
theorem dX13_trail_32 : decode cX13_trail 32 = .ok (.iload_n 2, 1) := by decide +kernel
theorem dX13_trail_33 : decode cX13_trail 33 = .ok (.iconst 1, 1) := by decide +kernel
theorem dX13_trail_34 : decode cX13_trail 34 = .ok (.iload 5, 2) := by decide +kernel
theorem dX13_trail_36 : decode cX13_trail 36 = .ok (.invokestatic 95, 3) := by decide +kernel
theorem dX13_trail_39 : decode cX13_trail 39 = .ok (.ifCond .eq 24, 3) := by decide +kernel
theorem dX13_trail_42 : decode cX13_trail 42 = .ok (.iload_n 3, 1) := by decide +kernel
theorem dX13_trail_43 : decode cX13_trail 43 = .ok (.iconst 1, 1) := by decide +kernel
theorem dX13_trail_44 : decode cX13_trail 44 = .ok (.iload 5, 2) := by decide +kernel
theorem dX13_trail_46 : decode cX13_trail 46 = .ok (.invokestatic 95, 3) := by decide +kernel
theorem dX13_trail_49 : decode cX13_trail 49 = .ok (.ifCond .eq 14, 3) := by decide +kernel
theorem dX13_trail_52 : decode cX13_trail 52 = .ok (.iload 4, 2) := by decide +kernel
theorem dX13_trail_54 : decode cX13_trail 54 = .ok (.iconst 0, 1) := by decide +kernel
theorem dX13_trail_55 : decode cX13_trail 55 = .ok (.iload 5, 2) := by decide +kernel
theorem dX13_trail_57 : decode cX13_trail 57 = .ok (.invokestatic 95, 3) := by decide +kernel
theorem dX13_trail_60 : decode cX13_trail 60 = .ok (.ifCond .ne 7, 3) := by decide +kernel
theorem dX13_trail_63 : decode cX13_trail 63 = .ok (.iconst 1, 1) := by decide +kernel
theorem dX13_trail_64 : decode cX13_trail 64 = .ok (.goto 4, 3) := by decide +kernel
theorem dX13_trail_67 : decode cX13_trail 67 = .ok (.iconst 0, 1) := by decide +kernel
theorem dX13_trail_68 : decode cX13_trail 68 = .ok (.iconst 1, 1) := by decide +kernel
theorem dX13_trail_69 : decode cX13_trail 69 = .ok (.invokevirtual 31, 3) := by decide +kernel
theorem dX13_trail_72 : decode cX13_trail 72 = .ok (.ifCond .eq 5, 3) := by decide +kernel
theorem dX13_trail_75 : decode cX13_trail 75 = .ok (.iconst 0, 1) := by decide +kernel
theorem dX13_trail_76 : decode cX13_trail 76 = .ok (.ireturn, 1) := by decide +kernel
theorem dX13_trail_77 : decode cX13_trail 77 = .ok (.aload_n 0, 1) := by decide +kernel
theorem dX13_trail_78 : decode cX13_trail 78 = .ok (.new 47, 3) := by decide +kernel
theorem dX13_trail_81 : decode cX13_trail 81 = .ok (.dup, 1) := by decide +kernel
theorem dX13_trail_82 : decode cX13_trail 82 = .ok (.iconst 3, 1) := by decide +kernel
theorem dX13_trail_83 : decode cX13_trail 83 = .ok (.iload_n 1, 1) := by decide +kernel
theorem dX13_trail_84 : decode cX13_trail 84 = .ok (.iconst 0, 1) := by decide +kernel
theorem dX13_trail_85 : decode cX13_trail 85 = .ok (.iload 4, 2) := by decide +kernel
theorem dX13_trail_87 : decode cX13_trail 87 = .ok (.ifCond .ne 17, 3) := by decide +kernel
theorem dX13_trail_90 : decode cX13_trail 90 = .ok (.iconst 2, 1) := by decide +kernel
theorem dX13_trail_91 : decode cX13_trail 91 = .ok (.newarray .int, 2) := by decide +kernel
theorem dX13_trail_93 : decode cX13_trail 93 = .ok (.dup, 1) := by decide +kernel
theorem dX13_trail_94 : decode cX13_trail 94 = .ok (.iconst 0, 1) := by decide +kernel
theorem dX13_trail_95 : decode cX13_trail 95 = .ok (.iload_n 2, 1) := by decide +kernel
theorem dX13_trail_96 : decode cX13_trail 96 = .ok (.iastore, 1) := by decide +kernel
theorem dX13_trail_97 : decode cX13_trail 97 = .ok (.dup, 1) := by decide +kernel
theorem dX13_trail_98 : decode cX13_trail 98 = .ok (.iconst 1, 1) := by decide +kernel
theorem dX13_trail_99 : decode cX13_trail 99 = .ok (.iload_n 3, 1) := by decide +kernel
theorem dX13_trail_100 : decode cX13_trail 100 = .ok (.iastore, 1) := by decide +kernel
theorem dX13_trail_101 : decode cX13_trail 101 = .ok (.goto 19, 3) := by decide +kernel
theorem dX13_trail_104 : decode cX13_trail 104 = .ok (.iconst 3, 1) := by decide +kernel
theorem dX13_trail_105 : decode cX13_trail 105 = .ok (.newarray .int, 2) := by decide +kernel
theorem dX13_trail_107 : decode cX13_trail 107 = .ok (.dup, 1) := by decide +kernel
theorem dX13_trail_108 : decode cX13_trail 108 = .ok (.iconst 0, 1) := by decide +kernel
theorem dX13_trail_109 : decode cX13_trail 109 = .ok (.iload_n 2, 1) := by decide +kernel
theorem dX13_trail_110 : decode cX13_trail 110 = .ok (.iastore, 1) := by decide +kernel
theorem dX13_trail_111 : decode cX13_trail 111 = .ok (.dup, 1) := by decide +kernel
theorem dX13_trail_112 : decode cX13_trail 112 = .ok (.iconst 1, 1) := by decide +kernel
theorem dX13_trail_113 : decode cX13_trail 113 = .ok (.iload_n 3, 1) := by decide +kernel
theorem dX13_trail_114 : decode cX13_trail 114 = .ok (.iastore, 1) := by decide +kernel
theorem dX13_trail_115 : decode cX13_trail 115 = .ok (.dup, 1) := by decide +kernel
theorem dX13_trail_116 : decode cX13_trail 116 = .ok (.iconst 2, 1) := by decide +kernel
theorem dX13_trail_117 : decode cX13_trail 117 = .ok (.iload 4, 2) := by decide +kernel
theorem dX13_trail_119 : decode cX13_trail 119 = .ok (.iastore, 1) := by decide +kernel
theorem dX13_trail_120 : decode cX13_trail 120 = .ok (.invokespecial 127, 3) := by decide +kernel
theorem dX13_trail_123 : decode cX13_trail 123 = .ok (.invokevirtual 130, 3) := by decide +kernel
theorem dX13_trail_126 : decode cX13_trail 126 = .ok (.ireturn, 1) := by decide +kernel
theorem dX13_weave_0 : decode cX13_weave 0 = .ok (.aload_n 0, 1) := by decide +kernel
theorem dX13_weave_1 : decode cX13_weave 1 = .ok (.iload_n 1, 1) := by decide +kernel
theorem dX13_weave_2 : decode cX13_weave 2 = .ok (.iconst 1, 1) := by decide +kernel
theorem dX13_weave_3 : decode cX13_weave 3 = .ok (.bipush 10, 2) := by decide +kernel
theorem dX13_weave_5 : decode cX13_weave 5 = .ok (.invokestatic 95, 3) := by decide +kernel
theorem dX13_weave_8 : decode cX13_weave 8 = .ok (.ifCond .eq 13, 3) := by decide +kernel
theorem dX13_weave_11 : decode cX13_weave 11 = .ok (.iload_n 2, 1) := by decide +kernel
theorem dX13_weave_12 : decode cX13_weave 12 = .ok (.iconst 1, 1) := by decide +kernel
theorem dX13_weave_13 : decode cX13_weave 13 = .ok (.bipush 10, 2) := by decide +kernel
theorem dX13_weave_15 : decode cX13_weave 15 = .ok (.invokestatic 95, 3) := by decide +kernel
theorem dX13_weave_18 : decode cX13_weave 18 = .ok (.ifCond .ne 7, 3) := by decide +kernel
theorem dX13_weave_21 : decode cX13_weave 21 = .ok (.iconst 1, 1) := by decide +kernel
theorem dX13_weave_22 : decode cX13_weave 22 = .ok (.goto 4, 3) := by decide +kernel
theorem dX13_weave_25 : decode cX13_weave 25 = .ok (.iconst 0, 1) := by decide +kernel
theorem dX13_weave_26 : decode cX13_weave 26 = .ok (.iconst 1, 1) := by decide +kernel
theorem dX13_weave_27 : decode cX13_weave 27 = .ok (.invokevirtual 99, 3) := by decide +kernel
theorem dX13_weave_30 : decode cX13_weave 30 = .ok (.ifCond .eq 7, 3) := by decide +kernel
theorem dX13_weave_33 : decode cX13_weave 33 = .ok (.iconst 0, 1) := by decide +kernel
theorem dX13_weave_34 : decode cX13_weave 34 = .ok (.goto 20, 3) := by decide +kernel
theorem dX13_weave_37 : decode cX13_weave 37 = .ok (.aload_n 0, 1) := by decide +kernel
theorem dX13_weave_38 : decode cX13_weave 38 = .ok (.new 47, 3) := by decide +kernel
theorem dX13_weave_41 : decode cX13_weave 41 = .ok (.dup, 1) := by decide +kernel
theorem dX13_weave_42 : decode cX13_weave 42 = .ok (.iconst 4, 1) := by decide +kernel
theorem dX13_weave_43 : decode cX13_weave 43 = .ok (.iload_n 1, 1) := by decide +kernel
theorem dX13_weave_44 : decode cX13_weave 44 = .ok (.iload_n 2, 1) := by decide +kernel
theorem dX13_weave_45 : decode cX13_weave 45 = .ok (.iconst 0, 1) := by decide +kernel
theorem dX13_weave_46 : decode cX13_weave 46 = .ok (.newarray .int, 2) := by decide +kernel
theorem dX13_weave_48 : decode cX13_weave 48 = .ok (.invokespecial 127, 3) := by decide +kernel
theorem dX13_weave_51 : decode cX13_weave 51 = .ok (.invokevirtual 130, 3) := by decide +kernel
theorem dX13_weave_54 : decode cX13_weave 54 = .ok (.ireturn, 1) := by decide +kernel
theorem dX13_drop_0 : decode cX13_drop 0 = .ok (.aload_n 0, 1) := by decide +kernel
theorem dX13_drop_1 : decode cX13_drop 1 = .ok (.aload_n 0, 1) := by decide +kernel
theorem dX13_drop_2 : decode cX13_drop 2 = .ok (.getfield 16, 3) := by decide +kernel
theorem dX13_drop_5 : decode cX13_drop 5 = .ok (.invokevirtual 133, 3) := by decide +kernel
theorem dX13_drop_8 : decode cX13_drop 8 = .ok (.iconst 1, 1) := by decide +kernel
theorem dX13_drop_9 : decode cX13_drop 9 = .ok (.invokevirtual 99, 3) := by decide +kernel
theorem dX13_drop_12 : decode cX13_drop 12 = .ok (.ifCond .eq 5, 3) := by decide +kernel
theorem dX13_drop_15 : decode cX13_drop 15 = .ok (.iconst 0, 1) := by decide +kernel
theorem dX13_drop_16 : decode cX13_drop 16 = .ok (.ireturn, 1) := by decide +kernel
theorem dX13_drop_17 : decode cX13_drop 17 = .ok (.aload_n 0, 1) := by decide +kernel
theorem dX13_drop_18 : decode cX13_drop 18 = .ok (.getfield 16, 3) := by decide +kernel
theorem dX13_drop_21 : decode cX13_drop 21 = .ok (.aload_n 0, 1) := by decide +kernel
theorem dX13_drop_22 : decode cX13_drop 22 = .ok (.getfield 16, 3) := by decide +kernel
theorem dX13_drop_25 : decode cX13_drop 25 = .ok (.invokevirtual 39, 3) := by decide +kernel
theorem dX13_drop_28 : decode cX13_drop 28 = .ok (.iconst 1, 1) := by decide +kernel
theorem dX13_drop_29 : decode cX13_drop 29 = .ok (.isub, 1) := by decide +kernel
theorem dX13_drop_30 : decode cX13_drop 30 = .ok (.invokevirtual 124, 3) := by decide +kernel
theorem dX13_drop_33 : decode cX13_drop 33 = .ok (.pop, 1) := by decide +kernel
theorem dX13_drop_34 : decode cX13_drop 34 = .ok (.aload_n 0, 1) := by decide +kernel
theorem dX13_drop_35 : decode cX13_drop 35 = .ok (.getfield 16, 3) := by decide +kernel
theorem dX13_drop_38 : decode cX13_drop 38 = .ok (.invokevirtual 39, 3) := by decide +kernel
theorem dX13_drop_41 : decode cX13_drop 41 = .ok (.ireturn, 1) := by decide +kernel
theorem dX13_channel_0 : decode cX13_channel 0 = .ok (.iload_n 1, 1) := by decide +kernel
theorem dX13_channel_1 : decode cX13_channel 1 = .ok (.iconst 1, 1) := by decide +kernel
theorem dX13_channel_2 : decode cX13_channel 2 = .ok (.if_icmp .eq 8, 3) := by decide +kernel
theorem dX13_channel_5 : decode cX13_channel 5 = .ok (.iload_n 1, 1) := by decide +kernel
theorem dX13_channel_6 : decode cX13_channel 6 = .ok (.iconst 3, 1) := by decide +kernel
theorem dX13_channel_7 : decode cX13_channel 7 = .ok (.if_icmp .ne 24, 3) := by decide +kernel
theorem dX13_channel_10 : decode cX13_channel 10 = .ok (.iload_n 2, 1) := by decide +kernel
theorem dX13_channel_11 : decode cX13_channel 11 = .ok (.iconst 0, 1) := by decide +kernel
theorem dX13_channel_12 : decode cX13_channel 12 = .ok (.sipush 1000, 3) := by decide +kernel
theorem dX13_channel_15 : decode cX13_channel 15 = .ok (.invokestatic 95, 3) := by decide +kernel
theorem dX13_channel_18 : decode cX13_channel 18 = .ok (.ifCond .eq 51, 3) := by decide +kernel
theorem dX13_channel_21 : decode cX13_channel 21 = .ok (.iload_n 3, 1) := by decide +kernel
theorem dX13_channel_22 : decode cX13_channel 22 = .ok (.iconst 0, 1) := by decide +kernel
theorem dX13_channel_23 : decode cX13_channel 23 = .ok (.ldc 137, 2) := by decide +kernel
theorem dX13_channel_25 : decode cX13_channel 25 = .ok (.invokestatic 95, 3) := by decide +kernel
theorem dX13_channel_28 : decode cX13_channel 28 = .ok (.ifCond .eq 41, 3) := by decide +kernel
theorem dX13_channel_31 : decode cX13_channel 31 = .ok (.iload_n 1, 1) := by decide +kernel
theorem dX13_channel_32 : decode cX13_channel 32 = .ok (.iconst 2, 1) := by decide +kernel
theorem dX13_channel_33 : decode cX13_channel 33 = .ok (.if_icmp .ne 40, 3) := by decide +kernel
theorem dX13_channel_36 : decode cX13_channel 36 = .ok (.iload_n 2, 1) := by decide +kernel
theorem dX13_channel_37 : decode cX13_channel 37 = .ok (.iconst 0, 1) := by decide +kernel
theorem dX13_channel_38 : decode cX13_channel 38 = .ok (.sipush 320, 3) := by decide +kernel
theorem dX13_channel_41 : decode cX13_channel 41 = .ok (.invokestatic 95, 3) := by decide +kernel
theorem dX13_channel_44 : decode cX13_channel 44 = .ok (.ifCond .eq 25, 3) := by decide +kernel
theorem dX13_channel_47 : decode cX13_channel 47 = .ok (.iload_n 3, 1) := by decide +kernel
theorem dX13_channel_48 : decode cX13_channel 48 = .ok (.iconst 1, 1) := by decide +kernel
theorem dX13_channel_49 : decode cX13_channel 49 = .ok (.bipush 50, 2) := by decide +kernel
theorem dX13_channel_51 : decode cX13_channel 51 = .ok (.invokestatic 95, 3) := by decide +kernel
theorem dX13_channel_54 : decode cX13_channel 54 = .ok (.ifCond .eq 15, 3) := by decide +kernel
theorem dX13_channel_57 : decode cX13_channel 57 = .ok (.iload 4, 2) := by decide +kernel
theorem dX13_channel_59 : decode cX13_channel 59 = .ok (.iload_n 3, 1) := by decide +kernel
theorem dX13_channel_60 : decode cX13_channel 60 = .ok (.sipush 320, 3) := by decide +kernel
theorem dX13_channel_63 : decode cX13_channel 63 = .ok (.invokestatic 95, 3) := by decide +kernel
theorem dX13_channel_66 : decode cX13_channel 66 = .ok (.ifCond .ne 7, 3) := by decide +kernel
theorem dX13_channel_69 : decode cX13_channel 69 = .ok (.iconst 1, 1) := by decide +kernel
theorem dX13_channel_70 : decode cX13_channel 70 = .ok (.goto 4, 3) := by decide +kernel
theorem dX13_channel_73 : decode cX13_channel 73 = .ok (.iconst 0, 1) := by decide +kernel
theorem dX13_channel_74 : decode cX13_channel 74 = .ok (.istore 5, 2) := by decide +kernel
theorem dX13_channel_76 : decode cX13_channel 76 = .ok (.aload_n 0, 1) := by decide +kernel
theorem dX13_channel_77 : decode cX13_channel 77 = .ok (.iload_n 1, 1) := by decide +kernel
theorem dX13_channel_78 : decode cX13_channel 78 = .ok (.iconst 0, 1) := by decide +kernel
theorem dX13_channel_79 : decode cX13_channel 79 = .ok (.iconst 3, 1) := by decide +kernel
theorem dX13_channel_80 : decode cX13_channel 80 = .ok (.invokestatic 95, 3) := by decide +kernel
theorem dX13_channel_83 : decode cX13_channel 83 = .ok (.ifCond .eq 8, 3) := by decide +kernel
theorem dX13_channel_86 : decode cX13_channel 86 = .ok (.iload 5, 2) := by decide +kernel
theorem dX13_channel_88 : decode cX13_channel 88 = .ok (.ifCond .eq 7, 3) := by decide +kernel
theorem dX13_channel_91 : decode cX13_channel 91 = .ok (.iconst 1, 1) := by decide +kernel
theorem dX13_channel_92 : decode cX13_channel 92 = .ok (.goto 4, 3) := by decide +kernel
theorem dX13_channel_95 : decode cX13_channel 95 = .ok (.iconst 0, 1) := by decide +kernel
theorem dX13_channel_96 : decode cX13_channel 96 = .ok (.iconst 1, 1) := by decide +kernel
theorem dX13_channel_97 : decode cX13_channel 97 = .ok (.invokevirtual 99, 3) := by decide +kernel
theorem dX13_channel_100 : decode cX13_channel 100 = .ok (.ifCond .eq 5, 3) := by decide +kernel
theorem dX13_channel_103 : decode cX13_channel 103 = .ok (.iconst 0, 1) := by decide +kernel
theorem dX13_channel_104 : decode cX13_channel 104 = .ok (.ireturn, 1) := by decide +kernel
theorem dX13_channel_105 : decode cX13_channel 105 = .ok (.aload_n 0, 1) := by decide +kernel
theorem dX13_channel_106 : decode cX13_channel 106 = .ok (.getfield 20, 3) := by decide +kernel
theorem dX13_channel_109 : decode cX13_channel 109 = .ok (.iconst 0, 1) := by decide +kernel
theorem dX13_channel_110 : decode cX13_channel 110 = .ok (.iaload, 1) := by decide +kernel
theorem dX13_channel_111 : decode cX13_channel 111 = .ok (.istore 6, 2) := by decide +kernel
theorem dX13_channel_113 : decode cX13_channel 113 = .ok (.aload_n 0, 1) := by decide +kernel
theorem dX13_channel_114 : decode cX13_channel 114 = .ok (.iconst 4, 1) := by decide +kernel
theorem dX13_channel_115 : decode cX13_channel 115 = .ok (.newarray .int, 2) := by decide +kernel
theorem dX13_channel_117 : decode cX13_channel 117 = .ok (.dup, 1) := by decide +kernel
theorem dX13_channel_118 : decode cX13_channel 118 = .ok (.iconst 0, 1) := by decide +kernel
theorem dX13_channel_119 : decode cX13_channel 119 = .ok (.iload_n 1, 1) := by decide +kernel
theorem dX13_channel_120 : decode cX13_channel 120 = .ok (.iastore, 1) := by decide +kernel
theorem dX13_channel_121 : decode cX13_channel 121 = .ok (.dup, 1) := by decide +kernel
theorem dX13_channel_122 : decode cX13_channel 122 = .ok (.iconst 1, 1) := by decide +kernel
theorem dX13_channel_123 : decode cX13_channel 123 = .ok (.iload_n 2, 1) := by decide +kernel
theorem dX13_channel_124 : decode cX13_channel 124 = .ok (.iastore, 1) := by decide +kernel
theorem dX13_channel_125 : decode cX13_channel 125 = .ok (.dup, 1) := by decide +kernel
theorem dX13_channel_126 : decode cX13_channel 126 = .ok (.iconst 2, 1) := by decide +kernel
theorem dX13_channel_127 : decode cX13_channel 127 = .ok (.iload_n 3, 1) := by decide +kernel
theorem dX13_channel_128 : decode cX13_channel 128 = .ok (.iastore, 1) := by decide +kernel
theorem dX13_channel_129 : decode cX13_channel 129 = .ok (.dup, 1) := by decide +kernel
theorem dX13_channel_130 : decode cX13_channel 130 = .ok (.iconst 3, 1) := by decide +kernel
theorem dX13_channel_131 : decode cX13_channel 131 = .ok (.iload 4, 2) := by decide +kernel
theorem dX13_channel_133 : decode cX13_channel 133 = .ok (.iastore, 1) := by decide +kernel
theorem dX13_channel_134 : decode cX13_channel 134 = .ok (.putfield 20, 3) := by decide +kernel
theorem dX13_channel_137 : decode cX13_channel 137 = .ok (.iload 6, 2) := by decide +kernel
theorem dX13_channel_139 : decode cX13_channel 139 = .ok (.ireturn, 1) := by decide +kernel
theorem dX13_mark_0 : decode cX13_mark 0 = .ok (.aload_n 0, 1) := by decide +kernel
theorem dX13_mark_1 : decode cX13_mark 1 = .ok (.iload_n 1, 1) := by decide +kernel
theorem dX13_mark_2 : decode cX13_mark 2 = .ok (.iconst 0, 1) := by decide +kernel
theorem dX13_mark_3 : decode cX13_mark 3 = .ok (.sipush 319, 3) := by decide +kernel
theorem dX13_mark_6 : decode cX13_mark 6 = .ok (.invokestatic 95, 3) := by decide +kernel
theorem dX13_mark_9 : decode cX13_mark 9 = .ok (.ifCond .ne 7, 3) := by decide +kernel
theorem dX13_mark_12 : decode cX13_mark 12 = .ok (.iconst 1, 1) := by decide +kernel
theorem dX13_mark_13 : decode cX13_mark 13 = .ok (.goto 4, 3) := by decide +kernel
theorem dX13_mark_16 : decode cX13_mark 16 = .ok (.iconst 0, 1) := by decide +kernel
theorem dX13_mark_17 : decode cX13_mark 17 = .ok (.iconst 1, 1) := by decide +kernel
theorem dX13_mark_18 : decode cX13_mark 18 = .ok (.invokevirtual 99, 3) := by decide +kernel
theorem dX13_mark_21 : decode cX13_mark 21 = .ok (.ifCond .eq 5, 3) := by decide +kernel
theorem dX13_mark_24 : decode cX13_mark 24 = .ok (.iconst 0, 1) := by decide +kernel
theorem dX13_mark_25 : decode cX13_mark 25 = .ok (.ireturn, 1) := by decide +kernel
theorem dX13_mark_26 : decode cX13_mark 26 = .ok (.aload_n 0, 1) := by decide +kernel
theorem dX13_mark_27 : decode cX13_mark 27 = .ok (.getfield 23, 3) := by decide +kernel
theorem dX13_mark_30 : decode cX13_mark 30 = .ok (.iload_n 1, 1) := by decide +kernel
theorem dX13_mark_31 : decode cX13_mark 31 = .ok (.aload_n 0, 1) := by decide +kernel
theorem dX13_mark_32 : decode cX13_mark 32 = .ok (.getfield 23, 3) := by decide +kernel
theorem dX13_mark_35 : decode cX13_mark 35 = .ok (.iload_n 1, 1) := by decide +kernel
theorem dX13_mark_36 : decode cX13_mark 36 = .ok (.baload, 1) := by decide +kernel
theorem dX13_mark_37 : decode cX13_mark 37 = .ok (.ifCond .ne 7, 3) := by decide +kernel
theorem dX13_mark_40 : decode cX13_mark 40 = .ok (.iconst 1, 1) := by decide +kernel
theorem dX13_mark_41 : decode cX13_mark 41 = .ok (.goto 4, 3) := by decide +kernel
theorem dX13_mark_44 : decode cX13_mark 44 = .ok (.iconst 0, 1) := by decide +kernel
theorem dX13_mark_45 : decode cX13_mark 45 = .ok (.bastore, 1) := by decide +kernel
theorem dX13_mark_46 : decode cX13_mark 46 = .ok (.iconst 0, 1) := by decide +kernel
theorem dX13_mark_47 : decode cX13_mark 47 = .ok (.istore_n 2, 1) := by decide +kernel
theorem dX13_mark_48 : decode cX13_mark 48 = .ok (.aload_n 0, 1) := by decide +kernel
theorem dX13_mark_49 : decode cX13_mark 49 = .ok (.getfield 23, 3) := by decide +kernel
theorem dX13_mark_52 : decode cX13_mark 52 = .ok (.astore_n 3, 1) := by decide +kernel
theorem dX13_mark_53 : decode cX13_mark 53 = .ok (.aload_n 3, 1) := by decide +kernel
theorem dX13_mark_54 : decode cX13_mark 54 = .ok (.arraylength, 1) := by decide +kernel
theorem dX13_mark_55 : decode cX13_mark 55 = .ok (.istore 4, 2) := by decide +kernel
theorem dX13_mark_57 : decode cX13_mark 57 = .ok (.iconst 0, 1) := by decide +kernel
theorem dX13_mark_58 : decode cX13_mark 58 = .ok (.istore 5, 2) := by decide +kernel
theorem dX13_mark_60 : decode cX13_mark 60 = .ok (.iload 5, 2) := by decide +kernel
theorem dX13_mark_62 : decode cX13_mark 62 = .ok (.iload 4, 2) := by decide +kernel
theorem dX13_mark_64 : decode cX13_mark 64 = .ok (.if_icmp .ge 28, 3) := by decide +kernel
theorem dX13_mark_67 : decode cX13_mark 67 = .ok (.aload_n 3, 1) := by decide +kernel
theorem dX13_mark_68 : decode cX13_mark 68 = .ok (.iload 5, 2) := by decide +kernel
theorem dX13_mark_70 : decode cX13_mark 70 = .ok (.baload, 1) := by decide +kernel
theorem dX13_mark_71 : decode cX13_mark 71 = .ok (.istore 6, 2) := by decide +kernel
theorem dX13_mark_73 : decode cX13_mark 73 = .ok (.iload_n 2, 1) := by decide +kernel
theorem dX13_mark_74 : decode cX13_mark 74 = .ok (.iload 6, 2) := by decide +kernel
theorem dX13_mark_76 : decode cX13_mark 76 = .ok (.ifCond .eq 7, 3) := by decide +kernel
theorem dX13_mark_79 : decode cX13_mark 79 = .ok (.iconst 1, 1) := by decide +kernel
theorem dX13_mark_80 : decode cX13_mark 80 = .ok (.goto 4, 3) := by decide +kernel
theorem dX13_mark_83 : decode cX13_mark 83 = .ok (.iconst 0, 1) := by decide +kernel
theorem dX13_mark_84 : decode cX13_mark 84 = .ok (.iadd, 1) := by decide +kernel
theorem dX13_mark_85 : decode cX13_mark 85 = .ok (.istore_n 2, 1) := by decide +kernel
theorem dX13_mark_86 : decode cX13_mark 86 = .ok (.iinc 5 1, 3) := by decide +kernel
theorem dX13_mark_89 : decode cX13_mark 89 = .ok (.goto (-29), 3) := by decide +kernel
theorem dX13_mark_92 : decode cX13_mark 92 = .ok (.iload_n 2, 1) := by decide +kernel
theorem dX13_mark_93 : decode cX13_mark 93 = .ok (.ireturn, 1) := by decide +kernel
theorem dX13_length_0 : decode cX13_length 0 = .ok (.aload_n 0, 1) := by decide +kernel
theorem dX13_length_1 : decode cX13_length 1 = .ok (.aload_n 0, 1) := by decide +kernel
theorem dX13_length_2 : decode cX13_length 2 = .ok (.getfield 7, 3) := by decide +kernel
theorem dX13_length_5 : decode cX13_length 5 = .ok (.arraylength, 1) := by decide +kernel
theorem dX13_length_6 : decode cX13_length 6 = .ok (.invokevirtual 116, 3) := by decide +kernel
theorem dX13_length_9 : decode cX13_length 9 = .ok (.ireturn, 1) := by decide +kernel
theorem dX13_stages_0 : decode cX13_stages 0 = .ok (.aload_n 0, 1) := by decide +kernel
theorem dX13_stages_1 : decode cX13_stages 1 = .ok (.aload_n 0, 1) := by decide +kernel
theorem dX13_stages_2 : decode cX13_stages 2 = .ok (.getfield 16, 3) := by decide +kernel
theorem dX13_stages_5 : decode cX13_stages 5 = .ok (.invokevirtual 39, 3) := by decide +kernel
theorem dX13_stages_8 : decode cX13_stages 8 = .ok (.invokevirtual 116, 3) := by decide +kernel
theorem dX13_stages_11 : decode cX13_stages 11 = .ok (.ireturn, 1) := by decide +kernel
theorem dX13_isNoStage_0 : decode cX13_isNoStage 0 = .ok (.aload_n 0, 1) := by decide +kernel
theorem dX13_isNoStage_1 : decode cX13_isNoStage 1 = .ok (.iload_n 1, 1) := by decide +kernel
theorem dX13_isNoStage_2 : decode cX13_isNoStage 2 = .ok (.iconst 0, 1) := by decide +kernel
theorem dX13_isNoStage_3 : decode cX13_isNoStage 3 = .ok (.aload_n 0, 1) := by decide +kernel
theorem dX13_isNoStage_4 : decode cX13_isNoStage 4 = .ok (.getfield 16, 3) := by decide +kernel
theorem dX13_isNoStage_7 : decode cX13_isNoStage 7 = .ok (.invokevirtual 39, 3) := by decide +kernel
theorem dX13_isNoStage_10 : decode cX13_isNoStage 10 = .ok (.iconst 1, 1) := by decide +kernel
theorem dX13_isNoStage_11 : decode cX13_isNoStage 11 = .ok (.isub, 1) := by decide +kernel
theorem dX13_isNoStage_12 : decode cX13_isNoStage 12 = .ok (.invokestatic 95, 3) := by decide +kernel
theorem dX13_isNoStage_15 : decode cX13_isNoStage 15 = .ok (.ifCond .ne 7, 3) := by decide +kernel
theorem dX13_isNoStage_18 : decode cX13_isNoStage 18 = .ok (.iconst 1, 1) := by decide +kernel
theorem dX13_isNoStage_19 : decode cX13_isNoStage 19 = .ok (.goto 4, 3) := by decide +kernel
theorem dX13_isNoStage_22 : decode cX13_isNoStage 22 = .ok (.iconst 0, 1) := by decide +kernel
theorem dX13_isNoStage_23 : decode cX13_isNoStage 23 = .ok (.iconst 1, 1) := by decide +kernel
theorem dX13_isNoStage_24 : decode cX13_isNoStage 24 = .ok (.invokevirtual 99, 3) := by decide +kernel
theorem dX13_isNoStage_27 : decode cX13_isNoStage 27 = .ok (.ireturn, 1) := by decide +kernel
theorem dX13_ofStage_0 : decode cX13_ofStage 0 = .ok (.aload_n 0, 1) := by decide +kernel
theorem dX13_ofStage_1 : decode cX13_ofStage 1 = .ok (.iload_n 1, 1) := by decide +kernel
theorem dX13_ofStage_2 : decode cX13_ofStage 2 = .ok (.invokevirtual 145, 3) := by decide +kernel
theorem dX13_ofStage_5 : decode cX13_ofStage 5 = .ok (.ifCond .ne 25, 3) := by decide +kernel
theorem dX13_ofStage_8 : decode cX13_ofStage 8 = .ok (.aload_n 0, 1) := by decide +kernel
theorem dX13_ofStage_9 : decode cX13_ofStage 9 = .ok (.iload_n 2, 1) := by decide +kernel
theorem dX13_ofStage_10 : decode cX13_ofStage 10 = .ok (.iconst 0, 1) := by decide +kernel
theorem dX13_ofStage_11 : decode cX13_ofStage 11 = .ok (.iconst 4, 1) := by decide +kernel
theorem dX13_ofStage_12 : decode cX13_ofStage 12 = .ok (.invokestatic 95, 3) := by decide +kernel
theorem dX13_ofStage_15 : decode cX13_ofStage 15 = .ok (.ifCond .ne 7, 3) := by decide +kernel
theorem dX13_ofStage_18 : decode cX13_ofStage 18 = .ok (.iconst 1, 1) := by decide +kernel
theorem dX13_ofStage_19 : decode cX13_ofStage 19 = .ok (.goto 4, 3) := by decide +kernel
theorem dX13_ofStage_22 : decode cX13_ofStage 22 = .ok (.iconst 0, 1) := by decide +kernel
theorem dX13_ofStage_23 : decode cX13_ofStage 23 = .ok (.iconst 2, 1) := by decide +kernel
theorem dX13_ofStage_24 : decode cX13_ofStage 24 = .ok (.invokevirtual 31, 3) := by decide +kernel
theorem dX13_ofStage_27 : decode cX13_ofStage 27 = .ok (.ifCond .eq 5, 3) := by decide +kernel
theorem dX13_ofStage_30 : decode cX13_ofStage 30 = .ok (.iconst 0, 1) := by decide +kernel
theorem dX13_ofStage_31 : decode cX13_ofStage 31 = .ok (.ireturn, 1) := by decide +kernel
theorem dX13_ofStage_32 : decode cX13_ofStage 32 = .ok (.aload_n 0, 1) := by decide +kernel
theorem dX13_ofStage_33 : decode cX13_ofStage 33 = .ok (.aload_n 0, 1) := by decide +kernel
theorem dX13_ofStage_34 : decode cX13_ofStage 34 = .ok (.getfield 7, 3) := by decide +kernel
theorem dX13_ofStage_37 : decode cX13_ofStage 37 = .ok (.invokevirtual 54, 3) := by decide +kernel
theorem dX13_ofStage_40 : decode cX13_ofStage 40 = .ok (.astore_n 3, 1) := by decide +kernel
theorem dX13_ofStage_41 : decode cX13_ofStage 41 = .ok (.aload_n 0, 1) := by decide +kernel
theorem dX13_ofStage_42 : decode cX13_ofStage 42 = .ok (.iload_n 1, 1) := by decide +kernel
theorem dX13_ofStage_43 : decode cX13_ofStage 43 = .ok (.iload_n 2, 1) := by decide +kernel
theorem dX13_ofStage_44 : decode cX13_ofStage 44 = .ok (.aload_n 3, 1) := by decide +kernel
theorem dX13_ofStage_45 : decode cX13_ofStage 45 = .ok (.aload_n 0, 1) := by decide +kernel
theorem dX13_ofStage_46 : decode cX13_ofStage 46 = .ok (.aload_n 0, 1) := by decide +kernel
theorem dX13_ofStage_47 : decode cX13_ofStage 47 = .ok (.aload_n 3, 1) := by decide +kernel
theorem dX13_ofStage_48 : decode cX13_ofStage 48 = .ok (.aload_n 0, 1) := by decide +kernel
theorem dX13_ofStage_49 : decode cX13_ofStage 49 = .ok (.getfield 16, 3) := by decide +kernel
theorem dX13_ofStage_52 : decode cX13_ofStage 52 = .ok (.invokevirtual 39, 3) := by decide +kernel
theorem dX13_ofStage_55 : decode cX13_ofStage 55 = .ok (.invokevirtual 43, 3) := by decide +kernel
theorem dX13_ofStage_58 : decode cX13_ofStage 58 = .ok (.checkcast 49, 3) := by decide +kernel
theorem dX13_ofStage_61 : decode cX13_ofStage 61 = .ok (.invokevirtual 88, 3) := by decide +kernel
theorem dX13_ofStage_64 : decode cX13_ofStage 64 = .ok (.aload_n 3, 1) := by decide +kernel
theorem dX13_ofStage_65 : decode cX13_ofStage 65 = .ok (.invokevirtual 80, 3) := by decide +kernel
theorem dX13_ofStage_68 : decode cX13_ofStage 68 = .ok (.invokevirtual 149, 3) := by decide +kernel
theorem dX13_ofStage_71 : decode cX13_ofStage 71 = .ok (.ireturn, 1) := by decide +kernel
theorem dX13_sent_0 : decode cX13_sent 0 = .ok (.aload_n 0, 1) := by decide +kernel
theorem dX13_sent_1 : decode cX13_sent 1 = .ok (.aload_n 0, 1) := by decide +kernel
theorem dX13_sent_2 : decode cX13_sent 2 = .ok (.invokevirtual 120, 3) := by decide +kernel
theorem dX13_sent_5 : decode cX13_sent 5 = .ok (.arraylength, 1) := by decide +kernel
theorem dX13_sent_6 : decode cX13_sent 6 = .ok (.invokevirtual 116, 3) := by decide +kernel
theorem dX13_sent_9 : decode cX13_sent 9 = .ok (.ireturn, 1) := by decide +kernel
theorem dX13_bit_0 : decode cX13_bit 0 = .ok (.aload_n 0, 1) := by decide +kernel
theorem dX13_bit_1 : decode cX13_bit 1 = .ok (.invokevirtual 120, 3) := by decide +kernel
theorem dX13_bit_4 : decode cX13_bit 4 = .ok (.astore_n 3, 1) := by decide +kernel
theorem dX13_bit_5 : decode cX13_bit 5 = .ok (.aload_n 0, 1) := by decide +kernel
theorem dX13_bit_6 : decode cX13_bit 6 = .ok (.iload_n 1, 1) := by decide +kernel
theorem dX13_bit_7 : decode cX13_bit 7 = .ok (.iconst 0, 1) := by decide +kernel
theorem dX13_bit_8 : decode cX13_bit 8 = .ok (.aload_n 3, 1) := by decide +kernel
theorem dX13_bit_9 : decode cX13_bit 9 = .ok (.arraylength, 1) := by decide +kernel
theorem dX13_bit_10 : decode cX13_bit 10 = .ok (.iconst 1, 1) := by decide +kernel
theorem dX13_bit_11 : decode cX13_bit 11 = .ok (.isub, 1) := by decide +kernel
theorem dX13_bit_12 : decode cX13_bit 12 = .ok (.invokestatic 95, 3) := by decide +kernel
theorem dX13_bit_15 : decode cX13_bit 15 = .ok (.ifCond .ne 7, 3) := by decide +kernel
theorem dX13_bit_18 : decode cX13_bit 18 = .ok (.iconst 1, 1) := by decide +kernel
theorem dX13_bit_19 : decode cX13_bit 19 = .ok (.goto 4, 3) := by decide +kernel
theorem dX13_bit_22 : decode cX13_bit 22 = .ok (.iconst 0, 1) := by decide +kernel
theorem dX13_bit_23 : decode cX13_bit 23 = .ok (.iconst 1, 1) := by decide +kernel
theorem dX13_bit_24 : decode cX13_bit 24 = .ok (.invokevirtual 99, 3) := by decide +kernel
theorem dX13_bit_27 : decode cX13_bit 27 = .ok (.ifCond .ne 25, 3) := by decide +kernel
theorem dX13_bit_30 : decode cX13_bit 30 = .ok (.aload_n 0, 1) := by decide +kernel
theorem dX13_bit_31 : decode cX13_bit 31 = .ok (.iload_n 2, 1) := by decide +kernel
theorem dX13_bit_32 : decode cX13_bit 32 = .ok (.iconst 0, 1) := by decide +kernel
theorem dX13_bit_33 : decode cX13_bit 33 = .ok (.iconst 1, 1) := by decide +kernel
theorem dX13_bit_34 : decode cX13_bit 34 = .ok (.invokestatic 95, 3) := by decide +kernel
theorem dX13_bit_37 : decode cX13_bit 37 = .ok (.ifCond .ne 7, 3) := by decide +kernel
theorem dX13_bit_40 : decode cX13_bit 40 = .ok (.iconst 1, 1) := by decide +kernel
theorem dX13_bit_41 : decode cX13_bit 41 = .ok (.goto 4, 3) := by decide +kernel
theorem dX13_bit_44 : decode cX13_bit 44 = .ok (.iconst 0, 1) := by decide +kernel
theorem dX13_bit_45 : decode cX13_bit 45 = .ok (.iconst 2, 1) := by decide +kernel
theorem dX13_bit_46 : decode cX13_bit 46 = .ok (.invokevirtual 31, 3) := by decide +kernel
theorem dX13_bit_49 : decode cX13_bit 49 = .ok (.ifCond .eq 7, 3) := by decide +kernel
theorem dX13_bit_52 : decode cX13_bit 52 = .ok (.iconst 0, 1) := by decide +kernel
theorem dX13_bit_53 : decode cX13_bit 53 = .ok (.goto 20, 3) := by decide +kernel
theorem dX13_bit_56 : decode cX13_bit 56 = .ok (.iload_n 2, 1) := by decide +kernel
theorem dX13_bit_57 : decode cX13_bit 57 = .ok (.ifCond .ne 9, 3) := by decide +kernel
theorem dX13_bit_60 : decode cX13_bit 60 = .ok (.aload_n 3, 1) := by decide +kernel
theorem dX13_bit_61 : decode cX13_bit 61 = .ok (.iload_n 1, 1) := by decide +kernel
theorem dX13_bit_62 : decode cX13_bit 62 = .ok (.iaload, 1) := by decide +kernel
theorem dX13_bit_63 : decode cX13_bit 63 = .ok (.goto 10, 3) := by decide +kernel
theorem dX13_bit_66 : decode cX13_bit 66 = .ok (.aload_n 0, 1) := by decide +kernel
theorem dX13_bit_67 : decode cX13_bit 67 = .ok (.aload_n 3, 1) := by decide +kernel
theorem dX13_bit_68 : decode cX13_bit 68 = .ok (.invokevirtual 88, 3) := by decide +kernel
theorem dX13_bit_71 : decode cX13_bit 71 = .ok (.iload_n 1, 1) := by decide +kernel
theorem dX13_bit_72 : decode cX13_bit 72 = .ok (.iaload, 1) := by decide +kernel
theorem dX13_bit_73 : decode cX13_bit 73 = .ok (.ireturn, 1) := by decide +kernel
theorem dX13_decodedNow_0 : decode cX13_decodedNow 0 = .ok (.aload_n 0, 1) := by decide +kernel
theorem dX13_decodedNow_1 : decode cX13_decodedNow 1 = .ok (.aload_n 0, 1) := by decide +kernel
theorem dX13_decodedNow_2 : decode cX13_decodedNow 2 = .ok (.getfield 7, 3) := by decide +kernel
theorem dX13_decodedNow_5 : decode cX13_decodedNow 5 = .ok (.invokevirtual 54, 3) := by decide +kernel
theorem dX13_decodedNow_8 : decode cX13_decodedNow 8 = .ok (.astore_n 1, 1) := by decide +kernel
theorem dX13_decodedNow_9 : decode cX13_decodedNow 9 = .ok (.aload_n 0, 1) := by decide +kernel
theorem dX13_decodedNow_10 : decode cX13_decodedNow 10 = .ok (.aload_n 0, 1) := by decide +kernel
theorem dX13_decodedNow_11 : decode cX13_decodedNow 11 = .ok (.aload_n 1, 1) := by decide +kernel
theorem dX13_decodedNow_12 : decode cX13_decodedNow 12 = .ok (.aload_n 0, 1) := by decide +kernel
theorem dX13_decodedNow_13 : decode cX13_decodedNow 13 = .ok (.getfield 16, 3) := by decide +kernel
theorem dX13_decodedNow_16 : decode cX13_decodedNow 16 = .ok (.invokevirtual 39, 3) := by decide +kernel
theorem dX13_decodedNow_19 : decode cX13_decodedNow 19 = .ok (.invokevirtual 43, 3) := by decide +kernel
theorem dX13_decodedNow_22 : decode cX13_decodedNow 22 = .ok (.checkcast 49, 3) := by decide +kernel
theorem dX13_decodedNow_25 : decode cX13_decodedNow 25 = .ok (.invokevirtual 88, 3) := by decide +kernel
theorem dX13_decodedNow_28 : decode cX13_decodedNow 28 = .ok (.aload_n 1, 1) := by decide +kernel
theorem dX13_decodedNow_29 : decode cX13_decodedNow 29 = .ok (.invokevirtual 80, 3) := by decide +kernel
theorem dX13_decodedNow_32 : decode cX13_decodedNow 32 = .ok (.iconst 0, 1) := by decide +kernel
theorem dX13_decodedNow_33 : decode cX13_decodedNow 33 = .ok (.aaload, 1) := by decide +kernel
theorem dX13_decodedNow_34 : decode cX13_decodedNow 34 = .ok (.areturn, 1) := by decide +kernel
theorem dX13_told_0 : decode cX13_told 0 = .ok (.aload_n 0, 1) := by decide +kernel
theorem dX13_told_1 : decode cX13_told 1 = .ok (.iload_n 1, 1) := by decide +kernel
theorem dX13_told_2 : decode cX13_told 2 = .ok (.iconst 0, 1) := by decide +kernel
theorem dX13_told_3 : decode cX13_told 3 = .ok (.aload_n 0, 1) := by decide +kernel
theorem dX13_told_4 : decode cX13_told 4 = .ok (.getfield 7, 3) := by decide +kernel
theorem dX13_told_7 : decode cX13_told 7 = .ok (.arraylength, 1) := by decide +kernel
theorem dX13_told_8 : decode cX13_told 8 = .ok (.iconst 1, 1) := by decide +kernel
theorem dX13_told_9 : decode cX13_told 9 = .ok (.isub, 1) := by decide +kernel
theorem dX13_told_10 : decode cX13_told 10 = .ok (.invokestatic 95, 3) := by decide +kernel
theorem dX13_told_13 : decode cX13_told 13 = .ok (.ifCond .ne 7, 3) := by decide +kernel
theorem dX13_told_16 : decode cX13_told 16 = .ok (.iconst 1, 1) := by decide +kernel
theorem dX13_told_17 : decode cX13_told 17 = .ok (.goto 4, 3) := by decide +kernel
theorem dX13_told_20 : decode cX13_told 20 = .ok (.iconst 0, 1) := by decide +kernel
theorem dX13_told_21 : decode cX13_told 21 = .ok (.iconst 1, 1) := by decide +kernel
theorem dX13_told_22 : decode cX13_told 22 = .ok (.invokevirtual 99, 3) := by decide +kernel
theorem dX13_told_25 : decode cX13_told 25 = .ok (.ifCond .ne 25, 3) := by decide +kernel
theorem dX13_told_28 : decode cX13_told 28 = .ok (.aload_n 0, 1) := by decide +kernel
theorem dX13_told_29 : decode cX13_told 29 = .ok (.iload_n 2, 1) := by decide +kernel
theorem dX13_told_30 : decode cX13_told 30 = .ok (.iconst 0, 1) := by decide +kernel
theorem dX13_told_31 : decode cX13_told 31 = .ok (.iconst 1, 1) := by decide +kernel
theorem dX13_told_32 : decode cX13_told 32 = .ok (.invokestatic 95, 3) := by decide +kernel
theorem dX13_told_35 : decode cX13_told 35 = .ok (.ifCond .ne 7, 3) := by decide +kernel
theorem dX13_told_38 : decode cX13_told 38 = .ok (.iconst 1, 1) := by decide +kernel
theorem dX13_told_39 : decode cX13_told 39 = .ok (.goto 4, 3) := by decide +kernel
theorem dX13_told_42 : decode cX13_told 42 = .ok (.iconst 0, 1) := by decide +kernel
theorem dX13_told_43 : decode cX13_told 43 = .ok (.iconst 2, 1) := by decide +kernel
theorem dX13_told_44 : decode cX13_told 44 = .ok (.invokevirtual 31, 3) := by decide +kernel
theorem dX13_told_47 : decode cX13_told 47 = .ok (.ifCond .eq 7, 3) := by decide +kernel
theorem dX13_told_50 : decode cX13_told 50 = .ok (.iconst 0, 1) := by decide +kernel
theorem dX13_told_51 : decode cX13_told 51 = .ok (.goto 22, 3) := by decide +kernel
theorem dX13_told_54 : decode cX13_told 54 = .ok (.iload_n 2, 1) := by decide +kernel
theorem dX13_told_55 : decode cX13_told 55 = .ok (.ifCond .ne 12, 3) := by decide +kernel
theorem dX13_told_58 : decode cX13_told 58 = .ok (.aload_n 0, 1) := by decide +kernel
theorem dX13_told_59 : decode cX13_told 59 = .ok (.getfield 7, 3) := by decide +kernel
theorem dX13_told_62 : decode cX13_told 62 = .ok (.iload_n 1, 1) := by decide +kernel
theorem dX13_told_63 : decode cX13_told 63 = .ok (.iaload, 1) := by decide +kernel
theorem dX13_told_64 : decode cX13_told 64 = .ok (.goto 9, 3) := by decide +kernel
theorem dX13_told_67 : decode cX13_told 67 = .ok (.aload_n 0, 1) := by decide +kernel
theorem dX13_told_68 : decode cX13_told 68 = .ok (.invokevirtual 153, 3) := by decide +kernel
theorem dX13_told_71 : decode cX13_told 71 = .ok (.iload_n 1, 1) := by decide +kernel
theorem dX13_told_72 : decode cX13_told 72 = .ok (.iaload, 1) := by decide +kernel
theorem dX13_told_73 : decode cX13_told 73 = .ok (.ireturn, 1) := by decide +kernel
theorem dX13_hurtNow_0 : decode cX13_hurtNow 0 = .ok (.aload_n 0, 1) := by decide +kernel
theorem dX13_hurtNow_1 : decode cX13_hurtNow 1 = .ok (.invokevirtual 120, 3) := by decide +kernel
theorem dX13_hurtNow_4 : decode cX13_hurtNow 4 = .ok (.aload_n 0, 1) := by decide +kernel
theorem dX13_hurtNow_5 : decode cX13_hurtNow 5 = .ok (.aload_n 0, 1) := by decide +kernel
theorem dX13_hurtNow_6 : decode cX13_hurtNow 6 = .ok (.invokevirtual 120, 3) := by decide +kernel
theorem dX13_hurtNow_9 : decode cX13_hurtNow 9 = .ok (.invokevirtual 88, 3) := by decide +kernel
theorem dX13_hurtNow_12 : decode cX13_hurtNow 12 = .ok (.invokestatic 84, 3) := by decide +kernel
theorem dX13_hurtNow_15 : decode cX13_hurtNow 15 = .ok (.ireturn, 1) := by decide +kernel
theorem dX13_hurt_0 : decode cX13_hurt 0 = .ok (.aload_n 0, 1) := by decide +kernel
theorem dX13_hurt_1 : decode cX13_hurt 1 = .ok (.aload_n 0, 1) := by decide +kernel
theorem dX13_hurt_2 : decode cX13_hurt 2 = .ok (.invokevirtual 156, 3) := by decide +kernel
theorem dX13_hurt_5 : decode cX13_hurt 5 = .ok (.invokevirtual 116, 3) := by decide +kernel
theorem dX13_hurt_8 : decode cX13_hurt 8 = .ok (.ireturn, 1) := by decide +kernel
theorem dX13_errors_0 : decode cX13_errors 0 = .ok (.aload_n 0, 1) := by decide +kernel
theorem dX13_errors_1 : decode cX13_errors 1 = .ok (.aload_n 0, 1) := by decide +kernel
theorem dX13_errors_2 : decode cX13_errors 2 = .ok (.invokevirtual 159, 3) := by decide +kernel
theorem dX13_errors_5 : decode cX13_errors 5 = .ok (.invokevirtual 116, 3) := by decide +kernel
theorem dX13_errors_8 : decode cX13_errors 8 = .ok (.ireturn, 1) := by decide +kernel
theorem dX13_distance_0 : decode cX13_distance 0 = .ok (.aload_n 0, 1) := by decide +kernel
theorem dX13_distance_1 : decode cX13_distance 1 = .ok (.iload_n 1, 1) := by decide +kernel
theorem dX13_distance_2 : decode cX13_distance 2 = .ok (.invokevirtual 145, 3) := by decide +kernel
theorem dX13_distance_5 : decode cX13_distance 5 = .ok (.ifCond .eq 7, 3) := by decide +kernel
theorem dX13_distance_8 : decode cX13_distance 8 = .ok (.iconst 0, 1) := by decide +kernel
theorem dX13_distance_9 : decode cX13_distance 9 = .ok (.goto 17, 3) := by decide +kernel
theorem dX13_distance_12 : decode cX13_distance 12 = .ok (.aload_n 0, 1) := by decide +kernel
theorem dX13_distance_13 : decode cX13_distance 13 = .ok (.getfield 16, 3) := by decide +kernel
theorem dX13_distance_16 : decode cX13_distance 16 = .ok (.iload_n 1, 1) := by decide +kernel
theorem dX13_distance_17 : decode cX13_distance 17 = .ok (.invokevirtual 43, 3) := by decide +kernel
theorem dX13_distance_20 : decode cX13_distance 20 = .ok (.checkcast 47, 3) := by decide +kernel
theorem dX13_distance_23 : decode cX13_distance 23 = .ok (.invokevirtual 162, 3) := by decide +kernel
theorem dX13_distance_26 : decode cX13_distance 26 = .ok (.ireturn, 1) := by decide +kernel
theorem dX13_words_0 : decode cX13_words 0 = .ok (.iconst 0, 1) := by decide +kernel
theorem dX13_words_1 : decode cX13_words 1 = .ok (.istore_n 2, 1) := by decide +kernel
theorem dX13_words_2 : decode cX13_words 2 = .ok (.iconst 0, 1) := by decide +kernel
theorem dX13_words_3 : decode cX13_words 3 = .ok (.istore_n 3, 1) := by decide +kernel
theorem dX13_words_4 : decode cX13_words 4 = .ok (.iload_n 3, 1) := by decide +kernel
theorem dX13_words_5 : decode cX13_words 5 = .ok (.iconst 1, 1) := by decide +kernel
theorem dX13_words_6 : decode cX13_words 6 = .ok (.aload_n 0, 1) := by decide +kernel
theorem dX13_words_7 : decode cX13_words 7 = .ok (.getfield 165, 3) := by decide +kernel
theorem dX13_words_10 : decode cX13_words 10 = .ok (.ishl, 1) := by decide +kernel
theorem dX13_words_11 : decode cX13_words 11 = .ok (.if_icmp .ge 29, 3) := by decide +kernel
theorem dX13_words_14 : decode cX13_words 14 = .ok (.iload_n 2, 1) := by decide +kernel
theorem dX13_words_15 : decode cX13_words 15 = .ok (.aload_n 0, 1) := by decide +kernel
theorem dX13_words_16 : decode cX13_words 16 = .ok (.iload_n 3, 1) := by decide +kernel
theorem dX13_words_17 : decode cX13_words 17 = .ok (.invokevirtual 168, 3) := by decide +kernel
theorem dX13_words_20 : decode cX13_words 20 = .ok (.invokestatic 171, 3) := by decide +kernel
theorem dX13_words_23 : decode cX13_words 23 = .ok (.iload_n 1, 1) := by decide +kernel
theorem dX13_words_24 : decode cX13_words 24 = .ok (.if_icmp .ne 7, 3) := by decide +kernel
theorem dX13_words_27 : decode cX13_words 27 = .ok (.iconst 1, 1) := by decide +kernel
theorem dX13_words_28 : decode cX13_words 28 = .ok (.goto 4, 3) := by decide +kernel
theorem dX13_words_31 : decode cX13_words 31 = .ok (.iconst 0, 1) := by decide +kernel
theorem dX13_words_32 : decode cX13_words 32 = .ok (.iadd, 1) := by decide +kernel
theorem dX13_words_33 : decode cX13_words 33 = .ok (.istore_n 2, 1) := by decide +kernel
theorem dX13_words_34 : decode cX13_words 34 = .ok (.iinc 3 1, 3) := by decide +kernel
theorem dX13_words_37 : decode cX13_words 37 = .ok (.goto (-33), 3) := by decide +kernel
theorem dX13_words_40 : decode cX13_words 40 = .ok (.iload_n 2, 1) := by decide +kernel
theorem dX13_words_41 : decode cX13_words 41 = .ok (.ireturn, 1) := by decide +kernel
theorem dX13_words__0 : decode cX13_words_ 0 = .ok (.aload_n 0, 1) := by decide +kernel
theorem dX13_words__1 : decode cX13_words_ 1 = .ok (.iload_n 1, 1) := by decide +kernel
theorem dX13_words__2 : decode cX13_words_ 2 = .ok (.invokevirtual 145, 3) := by decide +kernel
theorem dX13_words__5 : decode cX13_words_ 5 = .ok (.ifCond .ne 44, 3) := by decide +kernel
theorem dX13_words__8 : decode cX13_words_ 8 = .ok (.aload_n 0, 1) := by decide +kernel
theorem dX13_words__9 : decode cX13_words_ 9 = .ok (.aload_n 0, 1) := by decide +kernel
theorem dX13_words__10 : decode cX13_words_ 10 = .ok (.getfield 16, 3) := by decide +kernel
theorem dX13_words__13 : decode cX13_words_ 13 = .ok (.iload_n 1, 1) := by decide +kernel
theorem dX13_words__14 : decode cX13_words_ 14 = .ok (.invokevirtual 43, 3) := by decide +kernel
theorem dX13_words__17 : decode cX13_words_ 17 = .ok (.checkcast 47, 3) := by decide +kernel
theorem dX13_words__20 : decode cX13_words_ 20 = .ok (.getfield 138, 3) := by decide +kernel
theorem dX13_words__23 : decode cX13_words_ 23 = .ok (.iconst 1, 1) := by decide +kernel
theorem dX13_words__24 : decode cX13_words_ 24 = .ok (.if_icmp .ne 13, 3) := by decide +kernel
theorem dX13_words__27 : decode cX13_words_ 27 = .ok (.iload_n 2, 1) := by decide +kernel
theorem dX13_words__28 : decode cX13_words_ 28 = .ok (.iconst 0, 1) := by decide +kernel
theorem dX13_words__29 : decode cX13_words_ 29 = .ok (.bipush 10, 2) := by decide +kernel
theorem dX13_words__31 : decode cX13_words_ 31 = .ok (.invokestatic 95, 3) := by decide +kernel
theorem dX13_words__34 : decode cX13_words_ 34 = .ok (.ifCond .ne 7, 3) := by decide +kernel
theorem dX13_words__37 : decode cX13_words_ 37 = .ok (.iconst 1, 1) := by decide +kernel
theorem dX13_words__38 : decode cX13_words_ 38 = .ok (.goto 4, 3) := by decide +kernel
theorem dX13_words__41 : decode cX13_words_ 41 = .ok (.iconst 0, 1) := by decide +kernel
theorem dX13_words__42 : decode cX13_words_ 42 = .ok (.iconst 2, 1) := by decide +kernel
theorem dX13_words__43 : decode cX13_words_ 43 = .ok (.invokevirtual 31, 3) := by decide +kernel
theorem dX13_words__46 : decode cX13_words_ 46 = .ok (.ifCond .eq 7, 3) := by decide +kernel
theorem dX13_words__49 : decode cX13_words_ 49 = .ok (.iconst 0, 1) := by decide +kernel
theorem dX13_words__50 : decode cX13_words_ 50 = .ok (.goto 18, 3) := by decide +kernel
theorem dX13_words__53 : decode cX13_words_ 53 = .ok (.aload_n 0, 1) := by decide +kernel
theorem dX13_words__54 : decode cX13_words_ 54 = .ok (.getfield 16, 3) := by decide +kernel
theorem dX13_words__57 : decode cX13_words_ 57 = .ok (.iload_n 1, 1) := by decide +kernel
theorem dX13_words__58 : decode cX13_words_ 58 = .ok (.invokevirtual 43, 3) := by decide +kernel
theorem dX13_words__61 : decode cX13_words_ 61 = .ok (.checkcast 47, 3) := by decide +kernel
theorem dX13_words__64 : decode cX13_words_ 64 = .ok (.iload_n 2, 1) := by decide +kernel
theorem dX13_words__65 : decode cX13_words_ 65 = .ok (.invokestatic 176, 3) := by decide +kernel
theorem dX13_words__68 : decode cX13_words_ 68 = .ok (.ireturn, 1) := by decide +kernel
theorem dX13_rate_0 : decode cX13_rate 0 = .ok (.aload_n 0, 1) := by decide +kernel
theorem dX13_rate_1 : decode cX13_rate 1 = .ok (.iconst 0, 1) := by decide +kernel
theorem dX13_rate_2 : decode cX13_rate 2 = .ok (.putfield 27, 3) := by decide +kernel
theorem dX13_rate_5 : decode cX13_rate 5 = .ok (.aload_n 0, 1) := by decide +kernel
theorem dX13_rate_6 : decode cX13_rate 6 = .ok (.invokevirtual 120, 3) := by decide +kernel
theorem dX13_rate_9 : decode cX13_rate 9 = .ok (.arraylength, 1) := by decide +kernel
theorem dX13_rate_10 : decode cX13_rate 10 = .ok (.istore_n 1, 1) := by decide +kernel
theorem dX13_rate_11 : decode cX13_rate 11 = .ok (.iload_n 1, 1) := by decide +kernel
theorem dX13_rate_12 : decode cX13_rate 12 = .ok (.ifCond .ne 7, 3) := by decide +kernel
theorem dX13_rate_15 : decode cX13_rate 15 = .ok (.dconst 0, 1) := by decide +kernel
theorem dX13_rate_16 : decode cX13_rate 16 = .ok (.goto 12, 3) := by decide +kernel
theorem dX13_rate_19 : decode cX13_rate 19 = .ok (.aload_n 0, 1) := by decide +kernel
theorem dX13_rate_20 : decode cX13_rate 20 = .ok (.getfield 7, 3) := by decide +kernel
theorem dX13_rate_23 : decode cX13_rate 23 = .ok (.arraylength, 1) := by decide +kernel
theorem dX13_rate_24 : decode cX13_rate 24 = .ok (.i2d, 1) := by decide +kernel
theorem dX13_rate_25 : decode cX13_rate 25 = .ok (.iload_n 1, 1) := by decide +kernel
theorem dX13_rate_26 : decode cX13_rate 26 = .ok (.i2d, 1) := by decide +kernel
theorem dX13_rate_27 : decode cX13_rate 27 = .ok (.ddiv, 1) := by decide +kernel
theorem dX13_rate_28 : decode cX13_rate 28 = .ok (.dreturn, 1) := by decide +kernel
theorem dX13_errorsWithNow_0 : decode cX13_errorsWithNow 0 = .ok (.aload_n 0, 1) := by decide +kernel
theorem dX13_errorsWithNow_1 : decode cX13_errorsWithNow 1 = .ok (.getfield 23, 3) := by decide +kernel
theorem dX13_errorsWithNow_4 : decode cX13_errorsWithNow 4 = .ok (.iload_n 1, 1) := by decide +kernel
theorem dX13_errorsWithNow_5 : decode cX13_errorsWithNow 5 = .ok (.aload_n 0, 1) := by decide +kernel
theorem dX13_errorsWithNow_6 : decode cX13_errorsWithNow 6 = .ok (.getfield 23, 3) := by decide +kernel
theorem dX13_errorsWithNow_9 : decode cX13_errorsWithNow 9 = .ok (.iload_n 1, 1) := by decide +kernel
theorem dX13_errorsWithNow_10 : decode cX13_errorsWithNow 10 = .ok (.baload, 1) := by decide +kernel
theorem dX13_errorsWithNow_11 : decode cX13_errorsWithNow 11 = .ok (.ifCond .ne 7, 3) := by decide +kernel
theorem dX13_errorsWithNow_14 : decode cX13_errorsWithNow 14 = .ok (.iconst 1, 1) := by decide +kernel
theorem dX13_errorsWithNow_15 : decode cX13_errorsWithNow 15 = .ok (.goto 4, 3) := by decide +kernel
theorem dX13_errorsWithNow_18 : decode cX13_errorsWithNow 18 = .ok (.iconst 0, 1) := by decide +kernel
theorem dX13_errorsWithNow_19 : decode cX13_errorsWithNow 19 = .ok (.bastore, 1) := by decide +kernel
theorem dX13_errorsWithNow_20 : decode cX13_errorsWithNow 20 = .ok (.aload_n 0, 1) := by decide +kernel
theorem dX13_errorsWithNow_21 : decode cX13_errorsWithNow 21 = .ok (.invokevirtual 159, 3) := by decide +kernel
theorem dX13_errorsWithNow_24 : decode cX13_errorsWithNow 24 = .ok (.istore_n 2, 1) := by decide +kernel
theorem dX13_errorsWithNow_25 : decode cX13_errorsWithNow 25 = .ok (.aload_n 0, 1) := by decide +kernel
theorem dX13_errorsWithNow_26 : decode cX13_errorsWithNow 26 = .ok (.getfield 23, 3) := by decide +kernel
theorem dX13_errorsWithNow_29 : decode cX13_errorsWithNow 29 = .ok (.iload_n 1, 1) := by decide +kernel
theorem dX13_errorsWithNow_30 : decode cX13_errorsWithNow 30 = .ok (.aload_n 0, 1) := by decide +kernel
theorem dX13_errorsWithNow_31 : decode cX13_errorsWithNow 31 = .ok (.getfield 23, 3) := by decide +kernel
theorem dX13_errorsWithNow_34 : decode cX13_errorsWithNow 34 = .ok (.iload_n 1, 1) := by decide +kernel
theorem dX13_errorsWithNow_35 : decode cX13_errorsWithNow 35 = .ok (.baload, 1) := by decide +kernel
theorem dX13_errorsWithNow_36 : decode cX13_errorsWithNow 36 = .ok (.ifCond .ne 7, 3) := by decide +kernel
theorem dX13_errorsWithNow_39 : decode cX13_errorsWithNow 39 = .ok (.iconst 1, 1) := by decide +kernel
theorem dX13_errorsWithNow_40 : decode cX13_errorsWithNow 40 = .ok (.goto 4, 3) := by decide +kernel
theorem dX13_errorsWithNow_43 : decode cX13_errorsWithNow 43 = .ok (.iconst 0, 1) := by decide +kernel
theorem dX13_errorsWithNow_44 : decode cX13_errorsWithNow 44 = .ok (.bastore, 1) := by decide +kernel
theorem dX13_errorsWithNow_45 : decode cX13_errorsWithNow 45 = .ok (.iload_n 2, 1) := by decide +kernel
theorem dX13_errorsWithNow_46 : decode cX13_errorsWithNow 46 = .ok (.ireturn, 1) := by decide +kernel
theorem dX13_errorsWith_0 : decode cX13_errorsWith 0 = .ok (.aload_n 0, 1) := by decide +kernel
theorem dX13_errorsWith_1 : decode cX13_errorsWith 1 = .ok (.iload_n 1, 1) := by decide +kernel
theorem dX13_errorsWith_2 : decode cX13_errorsWith 2 = .ok (.iconst 0, 1) := by decide +kernel
theorem dX13_errorsWith_3 : decode cX13_errorsWith 3 = .ok (.aload_n 0, 1) := by decide +kernel
theorem dX13_errorsWith_4 : decode cX13_errorsWith 4 = .ok (.invokevirtual 120, 3) := by decide +kernel
theorem dX13_errorsWith_7 : decode cX13_errorsWith 7 = .ok (.arraylength, 1) := by decide +kernel
theorem dX13_errorsWith_8 : decode cX13_errorsWith 8 = .ok (.iconst 1, 1) := by decide +kernel
theorem dX13_errorsWith_9 : decode cX13_errorsWith 9 = .ok (.isub, 1) := by decide +kernel
theorem dX13_errorsWith_10 : decode cX13_errorsWith 10 = .ok (.invokestatic 95, 3) := by decide +kernel
theorem dX13_errorsWith_13 : decode cX13_errorsWith 13 = .ok (.ifCond .ne 7, 3) := by decide +kernel
theorem dX13_errorsWith_16 : decode cX13_errorsWith 16 = .ok (.iconst 1, 1) := by decide +kernel
theorem dX13_errorsWith_17 : decode cX13_errorsWith 17 = .ok (.goto 4, 3) := by decide +kernel
theorem dX13_errorsWith_20 : decode cX13_errorsWith 20 = .ok (.iconst 0, 1) := by decide +kernel
theorem dX13_errorsWith_21 : decode cX13_errorsWith 21 = .ok (.iconst 1, 1) := by decide +kernel
theorem dX13_errorsWith_22 : decode cX13_errorsWith 22 = .ok (.invokevirtual 99, 3) := by decide +kernel
theorem dX13_errorsWith_25 : decode cX13_errorsWith 25 = .ok (.ifCond .eq 7, 3) := by decide +kernel
theorem dX13_errorsWith_28 : decode cX13_errorsWith 28 = .ok (.iconst 0, 1) := by decide +kernel
theorem dX13_errorsWith_29 : decode cX13_errorsWith 29 = .ok (.goto 8, 3) := by decide +kernel
theorem dX13_errorsWith_32 : decode cX13_errorsWith 32 = .ok (.aload_n 0, 1) := by decide +kernel
theorem dX13_errorsWith_33 : decode cX13_errorsWith 33 = .ok (.iload_n 1, 1) := by decide +kernel
theorem dX13_errorsWith_34 : decode cX13_errorsWith 34 = .ok (.invokevirtual 180, 3) := by decide +kernel
theorem dX13_errorsWith_37 : decode cX13_errorsWith 37 = .ok (.ireturn, 1) := by decide +kernel
theorem dX13_weakNow_0 : decode cX13_weakNow 0 = .ok (.aload_n 0, 1) := by decide +kernel
theorem dX13_weakNow_1 : decode cX13_weakNow 1 = .ok (.invokevirtual 159, 3) := by decide +kernel
theorem dX13_weakNow_4 : decode cX13_weakNow 4 = .ok (.istore_n 1, 1) := by decide +kernel
theorem dX13_weakNow_5 : decode cX13_weakNow 5 = .ok (.iconst 0, 1) := by decide +kernel
theorem dX13_weakNow_6 : decode cX13_weakNow 6 = .ok (.istore_n 2, 1) := by decide +kernel
theorem dX13_weakNow_7 : decode cX13_weakNow 7 = .ok (.iconst 0, 1) := by decide +kernel
theorem dX13_weakNow_8 : decode cX13_weakNow 8 = .ok (.istore_n 3, 1) := by decide +kernel
theorem dX13_weakNow_9 : decode cX13_weakNow 9 = .ok (.iload_n 3, 1) := by decide +kernel
theorem dX13_weakNow_10 : decode cX13_weakNow 10 = .ok (.aload_n 0, 1) := by decide +kernel
theorem dX13_weakNow_11 : decode cX13_weakNow 11 = .ok (.invokevirtual 120, 3) := by decide +kernel
theorem dX13_weakNow_14 : decode cX13_weakNow 14 = .ok (.arraylength, 1) := by decide +kernel
theorem dX13_weakNow_15 : decode cX13_weakNow 15 = .ok (.if_icmp .ge 26, 3) := by decide +kernel
theorem dX13_weakNow_18 : decode cX13_weakNow 18 = .ok (.iload_n 2, 1) := by decide +kernel
theorem dX13_weakNow_19 : decode cX13_weakNow 19 = .ok (.aload_n 0, 1) := by decide +kernel
theorem dX13_weakNow_20 : decode cX13_weakNow 20 = .ok (.iload_n 3, 1) := by decide +kernel
theorem dX13_weakNow_21 : decode cX13_weakNow 21 = .ok (.invokevirtual 180, 3) := by decide +kernel
theorem dX13_weakNow_24 : decode cX13_weakNow 24 = .ok (.iload_n 1, 1) := by decide +kernel
theorem dX13_weakNow_25 : decode cX13_weakNow 25 = .ok (.if_icmp .le 7, 3) := by decide +kernel
theorem dX13_weakNow_28 : decode cX13_weakNow 28 = .ok (.iconst 1, 1) := by decide +kernel
theorem dX13_weakNow_29 : decode cX13_weakNow 29 = .ok (.goto 4, 3) := by decide +kernel
theorem dX13_weakNow_32 : decode cX13_weakNow 32 = .ok (.iconst 0, 1) := by decide +kernel
theorem dX13_weakNow_33 : decode cX13_weakNow 33 = .ok (.iadd, 1) := by decide +kernel
theorem dX13_weakNow_34 : decode cX13_weakNow 34 = .ok (.istore_n 2, 1) := by decide +kernel
theorem dX13_weakNow_35 : decode cX13_weakNow 35 = .ok (.iinc 3 1, 3) := by decide +kernel
theorem dX13_weakNow_38 : decode cX13_weakNow 38 = .ok (.goto (-29), 3) := by decide +kernel
theorem dX13_weakNow_41 : decode cX13_weakNow 41 = .ok (.iload_n 2, 1) := by decide +kernel
theorem dX13_weakNow_42 : decode cX13_weakNow 42 = .ok (.ireturn, 1) := by decide +kernel
theorem dX13_weak_0 : decode cX13_weak 0 = .ok (.aload_n 0, 1) := by decide +kernel
theorem dX13_weak_1 : decode cX13_weak 1 = .ok (.aload_n 0, 1) := by decide +kernel
theorem dX13_weak_2 : decode cX13_weak 2 = .ok (.invokevirtual 183, 3) := by decide +kernel
theorem dX13_weak_5 : decode cX13_weak 5 = .ok (.invokevirtual 116, 3) := by decide +kernel
theorem dX13_weak_8 : decode cX13_weak 8 = .ok (.ireturn, 1) := by decide +kernel
theorem dX13_breaksNow_0 : decode cX13_breaksNow 0 = .ok (.aload_n 0, 1) := by decide +kernel
theorem dX13_breaksNow_1 : decode cX13_breaksNow 1 = .ok (.aload_n 0, 1) := by decide +kernel
theorem dX13_breaksNow_2 : decode cX13_breaksNow 2 = .ok (.getfield 7, 3) := by decide +kernel
theorem dX13_breaksNow_5 : decode cX13_breaksNow 5 = .ok (.invokevirtual 54, 3) := by decide +kernel
theorem dX13_breaksNow_8 : decode cX13_breaksNow 8 = .ok (.astore_n 2, 1) := by decide +kernel
theorem dX13_breaksNow_9 : decode cX13_breaksNow 9 = .ok (.aload_n 2, 1) := by decide +kernel
theorem dX13_breaksNow_10 : decode cX13_breaksNow 10 = .ok (.aload_n 0, 1) := by decide +kernel
theorem dX13_breaksNow_11 : decode cX13_breaksNow 11 = .ok (.getfield 16, 3) := by decide +kernel
theorem dX13_breaksNow_14 : decode cX13_breaksNow 14 = .ok (.invokevirtual 39, 3) := by decide +kernel
theorem dX13_breaksNow_17 : decode cX13_breaksNow 17 = .ok (.invokevirtual 43, 3) := by decide +kernel
theorem dX13_breaksNow_20 : decode cX13_breaksNow 20 = .ok (.checkcast 49, 3) := by decide +kernel
theorem dX13_breaksNow_23 : decode cX13_breaksNow 23 = .ok (.invokevirtual 58, 3) := by decide +kernel
theorem dX13_breaksNow_26 : decode cX13_breaksNow 26 = .ok (.checkcast 49, 3) := by decide +kernel
theorem dX13_breaksNow_29 : decode cX13_breaksNow 29 = .ok (.astore_n 3, 1) := by decide +kernel
theorem dX13_breaksNow_30 : decode cX13_breaksNow 30 = .ok (.iload_n 1, 1) := by decide +kernel
theorem dX13_breaksNow_31 : decode cX13_breaksNow 31 = .ok (.istore 4, 2) := by decide +kernel
theorem dX13_breaksNow_33 : decode cX13_breaksNow 33 = .ok (.iload 4, 2) := by decide +kernel
theorem dX13_breaksNow_35 : decode cX13_breaksNow 35 = .ok (.aload_n 3, 1) := by decide +kernel
theorem dX13_breaksNow_36 : decode cX13_breaksNow 36 = .ok (.arraylength, 1) := by decide +kernel
theorem dX13_breaksNow_37 : decode cX13_breaksNow 37 = .ok (.if_icmp .ge 35, 3) := by decide +kernel
theorem dX13_breaksNow_40 : decode cX13_breaksNow 40 = .ok (.aload_n 3, 1) := by decide +kernel
theorem dX13_breaksNow_41 : decode cX13_breaksNow 41 = .ok (.iload 4, 2) := by decide +kernel
theorem dX13_breaksNow_43 : decode cX13_breaksNow 43 = .ok (.iconst 1, 1) := by decide +kernel
theorem dX13_breaksNow_44 : decode cX13_breaksNow 44 = .ok (.aload_n 3, 1) := by decide +kernel
theorem dX13_breaksNow_45 : decode cX13_breaksNow 45 = .ok (.iload 4, 2) := by decide +kernel
theorem dX13_breaksNow_47 : decode cX13_breaksNow 47 = .ok (.iaload, 1) := by decide +kernel
theorem dX13_breaksNow_48 : decode cX13_breaksNow 48 = .ok (.isub, 1) := by decide +kernel
theorem dX13_breaksNow_49 : decode cX13_breaksNow 49 = .ok (.iastore, 1) := by decide +kernel
theorem dX13_breaksNow_50 : decode cX13_breaksNow 50 = .ok (.aload_n 0, 1) := by decide +kernel
theorem dX13_breaksNow_51 : decode cX13_breaksNow 51 = .ok (.aload_n 3, 1) := by decide +kernel
theorem dX13_breaksNow_52 : decode cX13_breaksNow 52 = .ok (.aload_n 2, 1) := by decide +kernel
theorem dX13_breaksNow_53 : decode cX13_breaksNow 53 = .ok (.invokevirtual 91, 3) := by decide +kernel
theorem dX13_breaksNow_56 : decode cX13_breaksNow 56 = .ok (.ifCond .le 10, 3) := by decide +kernel
theorem dX13_breaksNow_59 : decode cX13_breaksNow 59 = .ok (.iload 4, 2) := by decide +kernel
theorem dX13_breaksNow_61 : decode cX13_breaksNow 61 = .ok (.iload_n 1, 1) := by decide +kernel
theorem dX13_breaksNow_62 : decode cX13_breaksNow 62 = .ok (.isub, 1) := by decide +kernel
theorem dX13_breaksNow_63 : decode cX13_breaksNow 63 = .ok (.iconst 1, 1) := by decide +kernel
theorem dX13_breaksNow_64 : decode cX13_breaksNow 64 = .ok (.iadd, 1) := by decide +kernel
theorem dX13_breaksNow_65 : decode cX13_breaksNow 65 = .ok (.ireturn, 1) := by decide +kernel
theorem dX13_breaksNow_66 : decode cX13_breaksNow 66 = .ok (.iinc 4 1, 3) := by decide +kernel
theorem dX13_breaksNow_69 : decode cX13_breaksNow 69 = .ok (.goto (-36), 3) := by decide +kernel
theorem dX13_breaksNow_72 : decode cX13_breaksNow 72 = .ok (.iconst 0, 1) := by decide +kernel
theorem dX13_breaksNow_73 : decode cX13_breaksNow 73 = .ok (.ireturn, 1) := by decide +kernel
theorem dX13_breaks_0 : decode cX13_breaks 0 = .ok (.aload_n 0, 1) := by decide +kernel
theorem dX13_breaks_1 : decode cX13_breaks 1 = .ok (.iload_n 1, 1) := by decide +kernel
theorem dX13_breaks_2 : decode cX13_breaks 2 = .ok (.iconst 0, 1) := by decide +kernel
theorem dX13_breaks_3 : decode cX13_breaks 3 = .ok (.sipush 319, 3) := by decide +kernel
theorem dX13_breaks_6 : decode cX13_breaks 6 = .ok (.invokestatic 95, 3) := by decide +kernel
theorem dX13_breaks_9 : decode cX13_breaks 9 = .ok (.ifCond .ne 7, 3) := by decide +kernel
theorem dX13_breaks_12 : decode cX13_breaks 12 = .ok (.iconst 1, 1) := by decide +kernel
theorem dX13_breaks_13 : decode cX13_breaks 13 = .ok (.goto 4, 3) := by decide +kernel
theorem dX13_breaks_16 : decode cX13_breaks 16 = .ok (.iconst 0, 1) := by decide +kernel
theorem dX13_breaks_17 : decode cX13_breaks 17 = .ok (.iconst 1, 1) := by decide +kernel
theorem dX13_breaks_18 : decode cX13_breaks 18 = .ok (.invokevirtual 99, 3) := by decide +kernel
theorem dX13_breaks_21 : decode cX13_breaks 21 = .ok (.ifCond .eq 7, 3) := by decide +kernel
theorem dX13_breaks_24 : decode cX13_breaks 24 = .ok (.iconst 0, 1) := by decide +kernel
theorem dX13_breaks_25 : decode cX13_breaks 25 = .ok (.goto 8, 3) := by decide +kernel
theorem dX13_breaks_28 : decode cX13_breaks 28 = .ok (.aload_n 0, 1) := by decide +kernel
theorem dX13_breaks_29 : decode cX13_breaks 29 = .ok (.iload_n 1, 1) := by decide +kernel
theorem dX13_breaks_30 : decode cX13_breaks 30 = .ok (.invokevirtual 186, 3) := by decide +kernel
theorem dX13_breaks_33 : decode cX13_breaks 33 = .ok (.ireturn, 1) := by decide +kernel
theorem dX13_meanErrors_0 : decode cX13_meanErrors 0 = .ok (.aload_n 0, 1) := by decide +kernel
theorem dX13_meanErrors_1 : decode cX13_meanErrors 1 = .ok (.iload_n 1, 1) := by decide +kernel
theorem dX13_meanErrors_2 : decode cX13_meanErrors 2 = .ok (.iconst 0, 1) := by decide +kernel
theorem dX13_meanErrors_3 : decode cX13_meanErrors 3 = .ok (.sipush 1000, 3) := by decide +kernel
theorem dX13_meanErrors_6 : decode cX13_meanErrors 6 = .ok (.invokestatic 95, 3) := by decide +kernel
theorem dX13_meanErrors_9 : decode cX13_meanErrors 9 = .ok (.ifCond .eq 13, 3) := by decide +kernel
theorem dX13_meanErrors_12 : decode cX13_meanErrors 12 = .ok (.iload_n 2, 1) := by decide +kernel
theorem dX13_meanErrors_13 : decode cX13_meanErrors 13 = .ok (.iconst 1, 1) := by decide +kernel
theorem dX13_meanErrors_14 : decode cX13_meanErrors 14 = .ok (.bipush 20, 2) := by decide +kernel
theorem dX13_meanErrors_16 : decode cX13_meanErrors 16 = .ok (.invokestatic 95, 3) := by decide +kernel
theorem dX13_meanErrors_19 : decode cX13_meanErrors 19 = .ok (.ifCond .ne 7, 3) := by decide +kernel
theorem dX13_meanErrors_22 : decode cX13_meanErrors 22 = .ok (.iconst 1, 1) := by decide +kernel
theorem dX13_meanErrors_23 : decode cX13_meanErrors 23 = .ok (.goto 4, 3) := by decide +kernel
theorem dX13_meanErrors_26 : decode cX13_meanErrors 26 = .ok (.iconst 0, 1) := by decide +kernel
theorem dX13_meanErrors_27 : decode cX13_meanErrors 27 = .ok (.iconst 1, 1) := by decide +kernel
theorem dX13_meanErrors_28 : decode cX13_meanErrors 28 = .ok (.invokevirtual 99, 3) := by decide +kernel
theorem dX13_meanErrors_31 : decode cX13_meanErrors 31 = .ok (.ifCond .eq 5, 3) := by decide +kernel
theorem dX13_meanErrors_34 : decode cX13_meanErrors 34 = .ok (.dconst 0, 1) := by decide +kernel
theorem dX13_meanErrors_35 : decode cX13_meanErrors 35 = .ok (.dreturn, 1) := by decide +kernel
theorem dX13_meanErrors_36 : decode cX13_meanErrors 36 = .ok (.aload_n 0, 1) := by decide +kernel
theorem dX13_meanErrors_37 : decode cX13_meanErrors 37 = .ok (.aload_n 0, 1) := by decide +kernel
theorem dX13_meanErrors_38 : decode cX13_meanErrors 38 = .ok (.getfield 7, 3) := by decide +kernel
theorem dX13_meanErrors_41 : decode cX13_meanErrors 41 = .ok (.invokevirtual 54, 3) := by decide +kernel
theorem dX13_meanErrors_44 : decode cX13_meanErrors 44 = .ok (.astore_n 3, 1) := by decide +kernel
theorem dX13_meanErrors_45 : decode cX13_meanErrors 45 = .ok (.iconst 0, 1) := by decide +kernel
theorem dX13_meanErrors_46 : decode cX13_meanErrors 46 = .ok (.istore 4, 2) := by decide +kernel
theorem dX13_meanErrors_48 : decode cX13_meanErrors 48 = .ok (.iconst 1, 1) := by decide +kernel
theorem dX13_meanErrors_49 : decode cX13_meanErrors 49 = .ok (.istore 5, 2) := by decide +kernel
theorem dX13_meanErrors_51 : decode cX13_meanErrors 51 = .ok (.iload 5, 2) := by decide +kernel
theorem dX13_meanErrors_53 : decode cX13_meanErrors 53 = .ok (.iload_n 2, 1) := by decide +kernel
theorem dX13_meanErrors_54 : decode cX13_meanErrors 54 = .ok (.if_icmp .gt 60, 3) := by decide +kernel
theorem dX13_meanErrors_57 : decode cX13_meanErrors 57 = .ok (.iload 4, 2) := by decide +kernel
theorem dX13_meanErrors_59 : decode cX13_meanErrors 59 = .ok (.aload_n 0, 1) := by decide +kernel
theorem dX13_meanErrors_60 : decode cX13_meanErrors 60 = .ok (.aload_n 3, 1) := by decide +kernel
theorem dX13_meanErrors_61 : decode cX13_meanErrors 61 = .ok (.aload_n 0, 1) := by decide +kernel
theorem dX13_meanErrors_62 : decode cX13_meanErrors 62 = .ok (.getfield 16, 3) := by decide +kernel
theorem dX13_meanErrors_65 : decode cX13_meanErrors 65 = .ok (.invokevirtual 39, 3) := by decide +kernel
theorem dX13_meanErrors_68 : decode cX13_meanErrors 68 = .ok (.invokevirtual 43, 3) := by decide +kernel
theorem dX13_meanErrors_71 : decode cX13_meanErrors 71 = .ok (.checkcast 49, 3) := by decide +kernel
theorem dX13_meanErrors_74 : decode cX13_meanErrors 74 = .ok (.iconst 4, 1) := by decide +kernel
theorem dX13_meanErrors_75 : decode cX13_meanErrors 75 = .ok (.newarray .int, 2) := by decide +kernel
theorem dX13_meanErrors_77 : decode cX13_meanErrors 77 = .ok (.dup, 1) := by decide +kernel
theorem dX13_meanErrors_78 : decode cX13_meanErrors 78 = .ok (.iconst 0, 1) := by decide +kernel
theorem dX13_meanErrors_79 : decode cX13_meanErrors 79 = .ok (.iconst 1, 1) := by decide +kernel
theorem dX13_meanErrors_80 : decode cX13_meanErrors 80 = .ok (.iastore, 1) := by decide +kernel
theorem dX13_meanErrors_81 : decode cX13_meanErrors 81 = .ok (.dup, 1) := by decide +kernel
theorem dX13_meanErrors_82 : decode cX13_meanErrors 82 = .ok (.iconst 1, 1) := by decide +kernel
theorem dX13_meanErrors_83 : decode cX13_meanErrors 83 = .ok (.iload_n 1, 1) := by decide +kernel
theorem dX13_meanErrors_84 : decode cX13_meanErrors 84 = .ok (.iastore, 1) := by decide +kernel
theorem dX13_meanErrors_85 : decode cX13_meanErrors 85 = .ok (.dup, 1) := by decide +kernel
theorem dX13_meanErrors_86 : decode cX13_meanErrors 86 = .ok (.iconst 2, 1) := by decide +kernel
theorem dX13_meanErrors_87 : decode cX13_meanErrors 87 = .ok (.iload 5, 2) := by decide +kernel
theorem dX13_meanErrors_89 : decode cX13_meanErrors 89 = .ok (.iastore, 1) := by decide +kernel
theorem dX13_meanErrors_90 : decode cX13_meanErrors 90 = .ok (.dup, 1) := by decide +kernel
theorem dX13_meanErrors_91 : decode cX13_meanErrors 91 = .ok (.iconst 3, 1) := by decide +kernel
theorem dX13_meanErrors_92 : decode cX13_meanErrors 92 = .ok (.iconst 1, 1) := by decide +kernel
theorem dX13_meanErrors_93 : decode cX13_meanErrors 93 = .ok (.iastore, 1) := by decide +kernel
theorem dX13_meanErrors_94 : decode cX13_meanErrors 94 = .ok (.aload_n 0, 1) := by decide +kernel
theorem dX13_meanErrors_95 : decode cX13_meanErrors 95 = .ok (.getfield 23, 3) := by decide +kernel
theorem dX13_meanErrors_98 : decode cX13_meanErrors 98 = .ok (.invokestatic 72, 3) := by decide +kernel
theorem dX13_meanErrors_101 : decode cX13_meanErrors 101 = .ok (.aload_n 3, 1) := by decide +kernel
theorem dX13_meanErrors_102 : decode cX13_meanErrors 102 = .ok (.invokevirtual 91, 3) := by decide +kernel
theorem dX13_meanErrors_105 : decode cX13_meanErrors 105 = .ok (.iadd, 1) := by decide +kernel
theorem dX13_meanErrors_106 : decode cX13_meanErrors 106 = .ok (.istore 4, 2) := by decide +kernel
theorem dX13_meanErrors_108 : decode cX13_meanErrors 108 = .ok (.iinc 5 1, 3) := by decide +kernel
theorem dX13_meanErrors_111 : decode cX13_meanErrors 111 = .ok (.goto (-60), 3) := by decide +kernel
theorem dX13_meanErrors_114 : decode cX13_meanErrors 114 = .ok (.iload 4, 2) := by decide +kernel
theorem dX13_meanErrors_116 : decode cX13_meanErrors 116 = .ok (.i2d, 1) := by decide +kernel
theorem dX13_meanErrors_117 : decode cX13_meanErrors 117 = .ok (.iload_n 2, 1) := by decide +kernel
theorem dX13_meanErrors_118 : decode cX13_meanErrors 118 = .ok (.i2d, 1) := by decide +kernel
theorem dX13_meanErrors_119 : decode cX13_meanErrors 119 = .ok (.ddiv, 1) := by decide +kernel
theorem dX13_meanErrors_120 : decode cX13_meanErrors 120 = .ok (.dreturn, 1) := by decide +kernel
theorem dX13_add__0 : decode cX13_add_ 0 = .ok (.lload_n 0, 1) := by decide +kernel
theorem dX13_add__1 : decode cX13_add_ 1 = .ok (.ldc2_w 189, 3) := by decide +kernel
theorem dX13_add__4 : decode cX13_add_ 4 = .ok (.lmul, 1) := by decide +kernel
theorem dX13_add__5 : decode cX13_add_ 5 = .ok (.lload_n 2, 1) := by decide +kernel
theorem dX13_add__6 : decode cX13_add_ 6 = .ok (.ladd, 1) := by decide +kernel
theorem dX13_add__7 : decode cX13_add_ 7 = .ok (.lreturn, 1) := by decide +kernel
theorem dX13_digest_0 : decode cX13_digest 0 = .ok (.aload_n 0, 1) := by decide +kernel
theorem dX13_digest_1 : decode cX13_digest 1 = .ok (.iconst 0, 1) := by decide +kernel
theorem dX13_digest_2 : decode cX13_digest 2 = .ok (.putfield 27, 3) := by decide +kernel
theorem dX13_digest_5 : decode cX13_digest 5 = .ok (.aload_n 0, 1) := by decide +kernel
theorem dX13_digest_6 : decode cX13_digest 6 = .ok (.aload_n 0, 1) := by decide +kernel
theorem dX13_digest_7 : decode cX13_digest 7 = .ok (.getfield 7, 3) := by decide +kernel
theorem dX13_digest_10 : decode cX13_digest 10 = .ok (.invokevirtual 54, 3) := by decide +kernel
theorem dX13_digest_13 : decode cX13_digest 13 = .ok (.astore_n 1, 1) := by decide +kernel
theorem dX13_digest_14 : decode cX13_digest 14 = .ok (.aload_n 1, 1) := by decide +kernel
theorem dX13_digest_15 : decode cX13_digest 15 = .ok (.aload_n 0, 1) := by decide +kernel
theorem dX13_digest_16 : decode cX13_digest 16 = .ok (.getfield 16, 3) := by decide +kernel
theorem dX13_digest_19 : decode cX13_digest 19 = .ok (.invokevirtual 39, 3) := by decide +kernel
theorem dX13_digest_22 : decode cX13_digest 22 = .ok (.invokevirtual 43, 3) := by decide +kernel
theorem dX13_digest_25 : decode cX13_digest 25 = .ok (.checkcast 49, 3) := by decide +kernel
theorem dX13_digest_28 : decode cX13_digest 28 = .ok (.astore_n 2, 1) := by decide +kernel
theorem dX13_digest_29 : decode cX13_digest 29 = .ok (.aload_n 0, 1) := by decide +kernel
theorem dX13_digest_30 : decode cX13_digest 30 = .ok (.aload_n 2, 1) := by decide +kernel
theorem dX13_digest_31 : decode cX13_digest 31 = .ok (.invokevirtual 88, 3) := by decide +kernel
theorem dX13_digest_34 : decode cX13_digest 34 = .ok (.astore_n 3, 1) := by decide +kernel
theorem dX13_digest_35 : decode cX13_digest 35 = .ok (.aload_n 0, 1) := by decide +kernel
theorem dX13_digest_36 : decode cX13_digest 36 = .ok (.aload_n 3, 1) := by decide +kernel
theorem dX13_digest_37 : decode cX13_digest 37 = .ok (.aload_n 1, 1) := by decide +kernel
theorem dX13_digest_38 : decode cX13_digest 38 = .ok (.invokevirtual 80, 3) := by decide +kernel
theorem dX13_digest_41 : decode cX13_digest 41 = .ok (.astore 4, 2) := by decide +kernel
theorem dX13_digest_43 : decode cX13_digest 43 = .ok (.ldc2_w 191, 3) := by decide +kernel
theorem dX13_digest_46 : decode cX13_digest 46 = .ok (.aload_n 0, 1) := by decide +kernel
theorem dX13_digest_47 : decode cX13_digest 47 = .ok (.getfield 7, 3) := by decide +kernel
theorem dX13_digest_50 : decode cX13_digest 50 = .ok (.arraylength, 1) := by decide +kernel
theorem dX13_digest_51 : decode cX13_digest 51 = .ok (.i2l, 1) := by decide +kernel
theorem dX13_digest_52 : decode cX13_digest 52 = .ok (.invokestatic 193, 3) := by decide +kernel
theorem dX13_digest_55 : decode cX13_digest 55 = .ok (.aload_n 0, 1) := by decide +kernel
theorem dX13_digest_56 : decode cX13_digest 56 = .ok (.getfield 16, 3) := by decide +kernel
theorem dX13_digest_59 : decode cX13_digest 59 = .ok (.invokevirtual 39, 3) := by decide +kernel
theorem dX13_digest_62 : decode cX13_digest 62 = .ok (.i2l, 1) := by decide +kernel
theorem dX13_digest_63 : decode cX13_digest 63 = .ok (.invokestatic 193, 3) := by decide +kernel
theorem dX13_digest_66 : decode cX13_digest 66 = .ok (.aload_n 2, 1) := by decide +kernel
theorem dX13_digest_67 : decode cX13_digest 67 = .ok (.arraylength, 1) := by decide +kernel
theorem dX13_digest_68 : decode cX13_digest 68 = .ok (.i2l, 1) := by decide +kernel
theorem dX13_digest_69 : decode cX13_digest 69 = .ok (.invokestatic 193, 3) := by decide +kernel
theorem dX13_digest_72 : decode cX13_digest 72 = .ok (.aload_n 2, 1) := by decide +kernel
theorem dX13_digest_73 : decode cX13_digest 73 = .ok (.aload_n 3, 1) := by decide +kernel
theorem dX13_digest_74 : decode cX13_digest 74 = .ok (.invokestatic 84, 3) := by decide +kernel
theorem dX13_digest_77 : decode cX13_digest 77 = .ok (.i2l, 1) := by decide +kernel
theorem dX13_digest_78 : decode cX13_digest 78 = .ok (.invokestatic 193, 3) := by decide +kernel
theorem dX13_digest_81 : decode cX13_digest 81 = .ok (.aload 4, 2) := by decide +kernel
theorem dX13_digest_83 : decode cX13_digest 83 = .ok (.iconst 0, 1) := by decide +kernel
theorem dX13_digest_84 : decode cX13_digest 84 = .ok (.aaload, 1) := by decide +kernel
theorem dX13_digest_85 : decode cX13_digest 85 = .ok (.aload_n 0, 1) := by decide +kernel
theorem dX13_digest_86 : decode cX13_digest 86 = .ok (.getfield 7, 3) := by decide +kernel
theorem dX13_digest_89 : decode cX13_digest 89 = .ok (.invokestatic 84, 3) := by decide +kernel
theorem dX13_digest_92 : decode cX13_digest 92 = .ok (.i2l, 1) := by decide +kernel
theorem dX13_digest_93 : decode cX13_digest 93 = .ok (.invokestatic 193, 3) := by decide +kernel
theorem dX13_digest_96 : decode cX13_digest 96 = .ok (.lstore 5, 2) := by decide +kernel
theorem dX13_digest_98 : decode cX13_digest 98 = .ok (.iconst 0, 1) := by decide +kernel
theorem dX13_digest_99 : decode cX13_digest 99 = .ok (.istore 7, 2) := by decide +kernel
theorem dX13_digest_101 : decode cX13_digest 101 = .ok (.iload 7, 2) := by decide +kernel
theorem dX13_digest_103 : decode cX13_digest 103 = .ok (.aload_n 0, 1) := by decide +kernel
theorem dX13_digest_104 : decode cX13_digest 104 = .ok (.getfield 16, 3) := by decide +kernel
theorem dX13_digest_107 : decode cX13_digest 107 = .ok (.invokevirtual 39, 3) := by decide +kernel
theorem dX13_digest_110 : decode cX13_digest 110 = .ok (.if_icmp .ge 126, 3) := by decide +kernel
theorem dX13_digest_113 : decode cX13_digest 113 = .ok (.iconst 0, 1) := by decide +kernel
theorem dX13_digest_114 : decode cX13_digest 114 = .ok (.istore 8, 2) := by decide +kernel
theorem dX13_digest_116 : decode cX13_digest 116 = .ok (.iload 8, 2) := by decide +kernel
theorem dX13_digest_118 : decode cX13_digest 118 = .ok (.iconst 5, 1) := by decide +kernel
theorem dX13_digest_119 : decode cX13_digest 119 = .ok (.if_icmp .ge 28, 3) := by decide +kernel
theorem dX13_digest_122 : decode cX13_digest 122 = .ok (.lload 5, 2) := by decide +kernel
theorem dX13_digest_124 : decode cX13_digest 124 = .ok (.aload_n 0, 1) := by decide +kernel
theorem dX13_digest_125 : decode cX13_digest 125 = .ok (.iload 7, 2) := by decide +kernel
theorem dX13_digest_127 : decode cX13_digest 127 = .ok (.iload 8, 2) := by decide +kernel
theorem dX13_digest_129 : decode cX13_digest 129 = .ok (.aload_n 1, 1) := by decide +kernel
theorem dX13_digest_130 : decode cX13_digest 130 = .ok (.aload 4, 2) := by decide +kernel
theorem dX13_digest_132 : decode cX13_digest 132 = .ok (.invokevirtual 149, 3) := by decide +kernel
theorem dX13_digest_135 : decode cX13_digest 135 = .ok (.i2l, 1) := by decide +kernel
theorem dX13_digest_136 : decode cX13_digest 136 = .ok (.invokestatic 193, 3) := by decide +kernel
theorem dX13_digest_139 : decode cX13_digest 139 = .ok (.lstore 5, 2) := by decide +kernel
theorem dX13_digest_141 : decode cX13_digest 141 = .ok (.iinc 8 1, 3) := by decide +kernel
theorem dX13_digest_144 : decode cX13_digest 144 = .ok (.goto (-28), 3) := by decide +kernel
theorem dX13_digest_147 : decode cX13_digest 147 = .ok (.lload 5, 2) := by decide +kernel
theorem dX13_digest_149 : decode cX13_digest 149 = .ok (.aload_n 0, 1) := by decide +kernel
theorem dX13_digest_150 : decode cX13_digest 150 = .ok (.getfield 16, 3) := by decide +kernel
theorem dX13_digest_153 : decode cX13_digest 153 = .ok (.iload 7, 2) := by decide +kernel
theorem dX13_digest_155 : decode cX13_digest 155 = .ok (.invokevirtual 43, 3) := by decide +kernel
theorem dX13_digest_158 : decode cX13_digest 158 = .ok (.checkcast 47, 3) := by decide +kernel
theorem dX13_digest_161 : decode cX13_digest 161 = .ok (.invokevirtual 162, 3) := by decide +kernel
theorem dX13_digest_164 : decode cX13_digest 164 = .ok (.i2l, 1) := by decide +kernel
theorem dX13_digest_165 : decode cX13_digest 165 = .ok (.invokestatic 193, 3) := by decide +kernel
theorem dX13_digest_168 : decode cX13_digest 168 = .ok (.lstore 5, 2) := by decide +kernel
theorem dX13_digest_170 : decode cX13_digest 170 = .ok (.iconst 0, 1) := by decide +kernel
theorem dX13_digest_171 : decode cX13_digest 171 = .ok (.istore 8, 2) := by decide +kernel
theorem dX13_digest_173 : decode cX13_digest 173 = .ok (.iload 8, 2) := by decide +kernel
theorem dX13_digest_175 : decode cX13_digest 175 = .ok (.bipush 10, 2) := by decide +kernel
theorem dX13_digest_177 : decode cX13_digest 177 = .ok (.if_icmp .gt 53, 3) := by decide +kernel
theorem dX13_digest_180 : decode cX13_digest 180 = .ok (.aload_n 0, 1) := by decide +kernel
theorem dX13_digest_181 : decode cX13_digest 181 = .ok (.getfield 16, 3) := by decide +kernel
theorem dX13_digest_184 : decode cX13_digest 184 = .ok (.iload 7, 2) := by decide +kernel
theorem dX13_digest_186 : decode cX13_digest 186 = .ok (.invokevirtual 43, 3) := by decide +kernel
theorem dX13_digest_189 : decode cX13_digest 189 = .ok (.checkcast 47, 3) := by decide +kernel
theorem dX13_digest_192 : decode cX13_digest 192 = .ok (.getfield 138, 3) := by decide +kernel
theorem dX13_digest_195 : decode cX13_digest 195 = .ok (.iconst 1, 1) := by decide +kernel
theorem dX13_digest_196 : decode cX13_digest 196 = .ok (.if_icmp .ne 34, 3) := by decide +kernel
theorem dX13_digest_199 : decode cX13_digest 199 = .ok (.lload 5, 2) := by decide +kernel
theorem dX13_digest_201 : decode cX13_digest 201 = .ok (.aload_n 0, 1) := by decide +kernel
theorem dX13_digest_202 : decode cX13_digest 202 = .ok (.getfield 16, 3) := by decide +kernel
theorem dX13_digest_205 : decode cX13_digest 205 = .ok (.iload 7, 2) := by decide +kernel
theorem dX13_digest_207 : decode cX13_digest 207 = .ok (.invokevirtual 43, 3) := by decide +kernel
theorem dX13_digest_210 : decode cX13_digest 210 = .ok (.checkcast 47, 3) := by decide +kernel
theorem dX13_digest_213 : decode cX13_digest 213 = .ok (.iload 8, 2) := by decide +kernel
theorem dX13_digest_215 : decode cX13_digest 215 = .ok (.invokestatic 176, 3) := by decide +kernel
theorem dX13_digest_218 : decode cX13_digest 218 = .ok (.i2l, 1) := by decide +kernel
theorem dX13_digest_219 : decode cX13_digest 219 = .ok (.invokestatic 193, 3) := by decide +kernel
theorem dX13_digest_222 : decode cX13_digest 222 = .ok (.lstore 5, 2) := by decide +kernel
theorem dX13_digest_224 : decode cX13_digest 224 = .ok (.iinc 8 1, 3) := by decide +kernel
theorem dX13_digest_227 : decode cX13_digest 227 = .ok (.goto (-54), 3) := by decide +kernel
theorem dX13_digest_230 : decode cX13_digest 230 = .ok (.iinc 7 1, 3) := by decide +kernel
theorem dX13_digest_233 : decode cX13_digest 233 = .ok (.goto (-132), 3) := by decide +kernel
theorem dX13_digest_236 : decode cX13_digest 236 = .ok (.iconst 0, 1) := by decide +kernel
theorem dX13_digest_237 : decode cX13_digest 237 = .ok (.istore 7, 2) := by decide +kernel
theorem dX13_digest_239 : decode cX13_digest 239 = .ok (.iload 7, 2) := by decide +kernel
theorem dX13_digest_241 : decode cX13_digest 241 = .ok (.aload_n 0, 1) := by decide +kernel
theorem dX13_digest_242 : decode cX13_digest 242 = .ok (.getfield 7, 3) := by decide +kernel
theorem dX13_digest_245 : decode cX13_digest 245 = .ok (.arraylength, 1) := by decide +kernel
theorem dX13_digest_246 : decode cX13_digest 246 = .ok (.if_icmp .ge 35, 3) := by decide +kernel
theorem dX13_digest_249 : decode cX13_digest 249 = .ok (.lload 5, 2) := by decide +kernel
theorem dX13_digest_251 : decode cX13_digest 251 = .ok (.aload_n 0, 1) := by decide +kernel
theorem dX13_digest_252 : decode cX13_digest 252 = .ok (.getfield 7, 3) := by decide +kernel
theorem dX13_digest_255 : decode cX13_digest 255 = .ok (.iload 7, 2) := by decide +kernel
theorem dX13_digest_257 : decode cX13_digest 257 = .ok (.iaload, 1) := by decide +kernel
theorem dX13_digest_258 : decode cX13_digest 258 = .ok (.i2l, 1) := by decide +kernel
theorem dX13_digest_259 : decode cX13_digest 259 = .ok (.invokestatic 193, 3) := by decide +kernel
theorem dX13_digest_262 : decode cX13_digest 262 = .ok (.aload 4, 2) := by decide +kernel
theorem dX13_digest_264 : decode cX13_digest 264 = .ok (.iconst 0, 1) := by decide +kernel
theorem dX13_digest_265 : decode cX13_digest 265 = .ok (.aaload, 1) := by decide +kernel
theorem dX13_digest_266 : decode cX13_digest 266 = .ok (.iload 7, 2) := by decide +kernel
theorem dX13_digest_268 : decode cX13_digest 268 = .ok (.iaload, 1) := by decide +kernel
theorem dX13_digest_269 : decode cX13_digest 269 = .ok (.i2l, 1) := by decide +kernel
theorem dX13_digest_270 : decode cX13_digest 270 = .ok (.invokestatic 193, 3) := by decide +kernel
theorem dX13_digest_273 : decode cX13_digest 273 = .ok (.lstore 5, 2) := by decide +kernel
theorem dX13_digest_275 : decode cX13_digest 275 = .ok (.iinc 7 1, 3) := by decide +kernel
theorem dX13_digest_278 : decode cX13_digest 278 = .ok (.goto (-39), 3) := by decide +kernel
theorem dX13_digest_281 : decode cX13_digest 281 = .ok (.iconst 0, 1) := by decide +kernel
theorem dX13_digest_282 : decode cX13_digest 282 = .ok (.istore 7, 2) := by decide +kernel
theorem dX13_digest_284 : decode cX13_digest 284 = .ok (.iload 7, 2) := by decide +kernel
theorem dX13_digest_286 : decode cX13_digest 286 = .ok (.aload_n 2, 1) := by decide +kernel
theorem dX13_digest_287 : decode cX13_digest 287 = .ok (.arraylength, 1) := by decide +kernel
theorem dX13_digest_288 : decode cX13_digest 288 = .ok (.if_icmp .ge 29, 3) := by decide +kernel
theorem dX13_digest_291 : decode cX13_digest 291 = .ok (.lload 5, 2) := by decide +kernel
theorem dX13_digest_293 : decode cX13_digest 293 = .ok (.aload_n 2, 1) := by decide +kernel
theorem dX13_digest_294 : decode cX13_digest 294 = .ok (.iload 7, 2) := by decide +kernel
theorem dX13_digest_296 : decode cX13_digest 296 = .ok (.iaload, 1) := by decide +kernel
theorem dX13_digest_297 : decode cX13_digest 297 = .ok (.i2l, 1) := by decide +kernel
theorem dX13_digest_298 : decode cX13_digest 298 = .ok (.invokestatic 193, 3) := by decide +kernel
theorem dX13_digest_301 : decode cX13_digest 301 = .ok (.aload_n 3, 1) := by decide +kernel
theorem dX13_digest_302 : decode cX13_digest 302 = .ok (.iload 7, 2) := by decide +kernel
theorem dX13_digest_304 : decode cX13_digest 304 = .ok (.iaload, 1) := by decide +kernel
theorem dX13_digest_305 : decode cX13_digest 305 = .ok (.i2l, 1) := by decide +kernel
theorem dX13_digest_306 : decode cX13_digest 306 = .ok (.invokestatic 193, 3) := by decide +kernel
theorem dX13_digest_309 : decode cX13_digest 309 = .ok (.lstore 5, 2) := by decide +kernel
theorem dX13_digest_311 : decode cX13_digest 311 = .ok (.iinc 7 1, 3) := by decide +kernel
theorem dX13_digest_314 : decode cX13_digest 314 = .ok (.goto (-30), 3) := by decide +kernel
theorem dX13_digest_317 : decode cX13_digest 317 = .ok (.lload 5, 2) := by decide +kernel
theorem dX13_digest_319 : decode cX13_digest 319 = .ok (.aload_n 0, 1) := by decide +kernel
theorem dX13_digest_320 : decode cX13_digest 320 = .ok (.iconst 0, 1) := by decide +kernel
theorem dX13_digest_321 : decode cX13_digest 321 = .ok (.invokevirtual 186, 3) := by decide +kernel
theorem dX13_digest_324 : decode cX13_digest 324 = .ok (.i2l, 1) := by decide +kernel
theorem dX13_digest_325 : decode cX13_digest 325 = .ok (.invokestatic 193, 3) := by decide +kernel
theorem dX13_digest_328 : decode cX13_digest 328 = .ok (.aload_n 0, 1) := by decide +kernel
theorem dX13_digest_329 : decode cX13_digest 329 = .ok (.iconst 5, 1) := by decide +kernel
theorem dX13_digest_330 : decode cX13_digest 330 = .ok (.invokevirtual 186, 3) := by decide +kernel
theorem dX13_digest_333 : decode cX13_digest 333 = .ok (.i2l, 1) := by decide +kernel
theorem dX13_digest_334 : decode cX13_digest 334 = .ok (.invokestatic 193, 3) := by decide +kernel
theorem dX13_digest_337 : decode cX13_digest 337 = .ok (.aload_n 0, 1) := by decide +kernel
theorem dX13_digest_338 : decode cX13_digest 338 = .ok (.invokevirtual 183, 3) := by decide +kernel
theorem dX13_digest_341 : decode cX13_digest 341 = .ok (.i2l, 1) := by decide +kernel
theorem dX13_digest_342 : decode cX13_digest 342 = .ok (.invokestatic 193, 3) := by decide +kernel
theorem dX13_digest_345 : decode cX13_digest 345 = .ok (.lreturn, 1) := by decide +kernel
