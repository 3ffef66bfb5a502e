theorem dX11_init_0 : decode cX11_init 0 = .ok (.aload_n 0, 1) := by decide +kernel
theorem dX11_init_1 : decode cX11_init 1 = .ok (.invokespecial 1, 3) := by decide +kernel
theorem dX11_init_4 : decode cX11_init 4 = .ok (.aload_n 0, 1) := by decide +kernel
theorem dX11_init_5 : decode cX11_init 5 = .ok (.new 7, 3) := by decide +kernel
theorem dX11_init_8 : decode cX11_init 8 = .ok (.dup, 1) := by decide +kernel
theorem dX11_init_9 : decode cX11_init 9 = .ok (.invokespecial 9, 3) := by decide +kernel
theorem dX11_init_12 : decode cX11_init 12 = .ok (.putfield 10, 3) := by decide +kernel
theorem dX11_init_15 : decode cX11_init 15 = .ok (.aload_n 0, 1) := by decide +kernel
theorem dX11_init_16 : decode cX11_init 16 = .ok (.new 16, 3) := by decide +kernel
theorem dX11_init_19 : decode cX11_init 19 = .ok (.dup, 1) := by decide +kernel
theorem dX11_init_20 : decode cX11_init 20 = .ok (.invokespecial 18, 3) := by decide +kernel
theorem dX11_init_23 : decode cX11_init 23 = .ok (.putfield 19, 3) := by decide +kernel
theorem dX11_init_26 : decode cX11_init 26 = .ok (.aload_n 0, 1) := by decide +kernel
theorem dX11_init_27 : decode cX11_init 27 = .ok (.new 16, 3) := by decide +kernel
theorem dX11_init_30 : decode cX11_init 30 = .ok (.dup, 1) := by decide +kernel
theorem dX11_init_31 : decode cX11_init 31 = .ok (.invokespecial 18, 3) := by decide +kernel
theorem dX11_init_34 : decode cX11_init 34 = .ok (.putfield 23, 3) := by decide +kernel
theorem dX11_init_37 : decode cX11_init 37 = .ok (.aload_n 0, 1) := by decide +kernel
theorem dX11_init_38 : decode cX11_init 38 = .ok (.new 26, 3) := by decide +kernel
theorem dX11_init_41 : decode cX11_init 41 = .ok (.dup, 1) := by decide +kernel
theorem dX11_init_42 : decode cX11_init 42 = .ok (.sipush 320, 3) := by decide +kernel
theorem dX11_init_45 : decode cX11_init 45 = .ok (.invokespecial 28, 3) := by decide +kernel
theorem dX11_init_48 : decode cX11_init 48 = .ok (.putfield 31, 3) := by decide +kernel
theorem dX11_init_51 : decode cX11_init 51 = .ok (.aload_n 0, 1) := by decide +kernel
theorem dX11_init_52 : decode cX11_init 52 = .ok (.getfield 31, 3) := by decide +kernel
theorem dX11_init_55 : decode cX11_init 55 = .ok (.sipush 320, 3) := by decide +kernel
theorem dX11_init_58 : decode cX11_init 58 = .ok (.invokevirtual 35, 3) := by decide +kernel
theorem dX11_init_61 : decode cX11_init 61 = .ok (.aload_n 0, 1) := by decide +kernel
theorem dX11_init_62 : decode cX11_init 62 = .ok (.new 38, 3) := by decide +kernel
theorem dX11_init_65 : decode cX11_init 65 = .ok (.dup, 1) := by decide +kernel
theorem dX11_init_66 : decode cX11_init 66 = .ok (.invokespecial 40, 3) := by decide +kernel
theorem dX11_init_69 : decode cX11_init 69 = .ok (.putfield 41, 3) := by decide +kernel
theorem dX11_init_72 : decode cX11_init 72 = .ok (.aload_n 0, 1) := by decide +kernel
theorem dX11_init_73 : decode cX11_init 73 = .ok (.new 38, 3) := by decide +kernel
theorem dX11_init_76 : decode cX11_init 76 = .ok (.dup, 1) := by decide +kernel
theorem dX11_init_77 : decode cX11_init 77 = .ok (.invokespecial 40, 3) := by decide +kernel
theorem dX11_init_80 : decode cX11_init 80 = .ok (.putfield 45, 3) := by decide +kernel
theorem dX11_init_83 : decode cX11_init 83 = .ok (.aload_n 0, 1) := by decide +kernel
theorem dX11_init_84 : decode cX11_init 84 = .ok (.new 38, 3) := by decide +kernel
theorem dX11_init_87 : decode cX11_init 87 = .ok (.dup, 1) := by decide +kernel
theorem dX11_init_88 : decode cX11_init 88 = .ok (.invokespecial 40, 3) := by decide +kernel
theorem dX11_init_91 : decode cX11_init 91 = .ok (.putfield 48, 3) := by decide +kernel
theorem dX11_init_94 : decode cX11_init 94 = .ok (.aload_n 0, 1) := by decide +kernel
theorem dX11_init_95 : decode cX11_init 95 = .ok (.new 51, 3) := by decide +kernel
theorem dX11_init_98 : decode cX11_init 98 = .ok (.dup, 1) := by decide +kernel
theorem dX11_init_99 : decode cX11_init 99 = .ok (.invokespecial 53, 3) := by decide +kernel
theorem dX11_init_102 : decode cX11_init 102 = .ok (.putfield 54, 3) := by decide +kernel
theorem dX11_init_105 : decode cX11_init 105 = .ok (.return_, 1) := by decide +kernel
theorem dX11_write_0 : decode cX11_write 0 = .ok (.iload_n 2, 1) := by decide +kernel
theorem dX11_write_1 : decode cX11_write 1 = .ok (.iconst 1, 1) := by decide +kernel
theorem dX11_write_2 : decode cX11_write 2 = .ok (.if_icmp .lt 9, 3) := by decide +kernel
theorem dX11_write_5 : decode cX11_write 5 = .ok (.iload_n 2, 1) := by decide +kernel
theorem dX11_write_6 : decode cX11_write 6 = .ok (.bipush 16, 2) := by decide +kernel
theorem dX11_write_8 : decode cX11_write 8 = .ok (.if_icmp .le 13, 3) := by decide +kernel
theorem dX11_write_11 : decode cX11_write 11 = .ok (.new 58, 3) := by decide +kernel
theorem dX11_write_14 : decode cX11_write 14 = .ok (.dup, 1) := by decide +kernel
theorem dX11_write_15 : decode cX11_write 15 = .ok (.ldc 60, 2) := by decide +kernel
theorem dX11_write_17 : decode cX11_write 17 = .ok (.invokespecial 62, 3) := by decide +kernel
theorem dX11_write_20 : decode cX11_write 20 = .ok (.athrow, 1) := by decide +kernel
theorem dX11_write_21 : decode cX11_write 21 = .ok (.iload_n 1, 1) := by decide +kernel
theorem dX11_write_22 : decode cX11_write 22 = .ok (.iload_n 2, 1) := by decide +kernel
theorem dX11_write_23 : decode cX11_write 23 = .ok (.invokestatic 65, 3) := by decide +kernel
theorem dX11_write_26 : decode cX11_write 26 = .ok (.ifCond .ne 13, 3) := by decide +kernel
theorem dX11_write_29 : decode cX11_write 29 = .ok (.new 58, 3) := by decide +kernel
theorem dX11_write_32 : decode cX11_write 32 = .ok (.dup, 1) := by decide +kernel
theorem dX11_write_33 : decode cX11_write 33 = .ok (.ldc 69, 2) := by decide +kernel
theorem dX11_write_35 : decode cX11_write 35 = .ok (.invokespecial 62, 3) := by decide +kernel
theorem dX11_write_38 : decode cX11_write 38 = .ok (.athrow, 1) := by decide +kernel
theorem dX11_write_39 : decode cX11_write 39 = .ok (.aload_n 0, 1) := by decide +kernel
theorem dX11_write_40 : decode cX11_write 40 = .ok (.getfield 41, 3) := by decide +kernel
theorem dX11_write_43 : decode cX11_write 43 = .ok (.iconst 0, 1) := by decide +kernel
theorem dX11_write_44 : decode cX11_write 44 = .ok (.invokevirtual 71, 3) := by decide +kernel
theorem dX11_write_47 : decode cX11_write 47 = .ok (.astore_n 3, 1) := by decide +kernel
theorem dX11_write_48 : decode cX11_write 48 = .ok (.aload_n 3, 1) := by decide +kernel
theorem dX11_write_49 : decode cX11_write 49 = .ok (.invokevirtual 75, 3) := by decide +kernel
theorem dX11_write_52 : decode cX11_write 52 = .ok (.istore 4, 2) := by decide +kernel
theorem dX11_write_54 : decode cX11_write 54 = .ok (.iload 4, 2) := by decide +kernel
theorem dX11_write_56 : decode cX11_write 56 = .ok (.iload_n 2, 1) := by decide +kernel
theorem dX11_write_57 : decode cX11_write 57 = .ok (.iadd, 1) := by decide +kernel
theorem dX11_write_58 : decode cX11_write 58 = .ok (.istore 5, 2) := by decide +kernel
theorem dX11_write_60 : decode cX11_write 60 = .ok (.iload 5, 2) := by decide +kernel
theorem dX11_write_62 : decode cX11_write 62 = .ok (.bipush 32, 2) := by decide +kernel
theorem dX11_write_64 : decode cX11_write 64 = .ok (.if_icmp .le 13, 3) := by decide +kernel
theorem dX11_write_67 : decode cX11_write 67 = .ok (.new 79, 3) := by decide +kernel
theorem dX11_write_70 : decode cX11_write 70 = .ok (.dup, 1) := by decide +kernel
theorem dX11_write_71 : decode cX11_write 71 = .ok (.ldc 81, 2) := by decide +kernel
theorem dX11_write_73 : decode cX11_write 73 = .ok (.invokespecial 83, 3) := by decide +kernel
theorem dX11_write_76 : decode cX11_write 76 = .ok (.athrow, 1) := by decide +kernel
theorem dX11_write_77 : decode cX11_write 77 = .ok (.aload_n 0, 1) := by decide +kernel
theorem dX11_write_78 : decode cX11_write 78 = .ok (.getfield 10, 3) := by decide +kernel
theorem dX11_write_81 : decode cX11_write 81 = .ok (.iload 5, 2) := by decide +kernel
theorem dX11_write_83 : decode cX11_write 83 = .ok (.invokevirtual 84, 3) := by decide +kernel
theorem dX11_write_86 : decode cX11_write 86 = .ok (.sipush 320, 3) := by decide +kernel
theorem dX11_write_89 : decode cX11_write 89 = .ok (.if_icmp .le 13, 3) := by decide +kernel
theorem dX11_write_92 : decode cX11_write 92 = .ok (.new 79, 3) := by decide +kernel
theorem dX11_write_95 : decode cX11_write 95 = .ok (.dup, 1) := by decide +kernel
theorem dX11_write_96 : decode cX11_write 96 = .ok (.ldc 88, 2) := by decide +kernel
theorem dX11_write_98 : decode cX11_write 98 = .ok (.invokespecial 83, 3) := by decide +kernel
theorem dX11_write_101 : decode cX11_write 101 = .ok (.athrow, 1) := by decide +kernel
theorem dX11_write_102 : decode cX11_write 102 = .ok (.aload_n 3, 1) := by decide +kernel
theorem dX11_write_103 : decode cX11_write 103 = .ok (.iload 5, 2) := by decide +kernel
theorem dX11_write_105 : decode cX11_write 105 = .ok (.invokevirtual 35, 3) := by decide +kernel
theorem dX11_write_108 : decode cX11_write 108 = .ok (.aload_n 3, 1) := by decide +kernel
theorem dX11_write_109 : decode cX11_write 109 = .ok (.iload 4, 2) := by decide +kernel
theorem dX11_write_111 : decode cX11_write 111 = .ok (.iload_n 1, 1) := by decide +kernel
theorem dX11_write_112 : decode cX11_write 112 = .ok (.iload_n 2, 1) := by decide +kernel
theorem dX11_write_113 : decode cX11_write 113 = .ok (.invokevirtual 90, 3) := by decide +kernel
theorem dX11_write_116 : decode cX11_write 116 = .ok (.aload_n 0, 1) := by decide +kernel
theorem dX11_write_117 : decode cX11_write 117 = .ok (.invokevirtual 94, 3) := by decide +kernel
theorem dX11_write_120 : decode cX11_write 120 = .ok (.iload 5, 2) := by decide +kernel
theorem dX11_write_122 : decode cX11_write 122 = .ok (.ireturn, 1) := by decide +kernel
theorem dX11_repeat_0 : decode cX11_repeat 0 = .ok (.iload_n 1, 1) := by decide +kernel
theorem dX11_repeat_1 : decode cX11_repeat 1 = .ok (.iconst 2, 1) := by decide +kernel
theorem dX11_repeat_2 : decode cX11_repeat 2 = .ok (.if_icmp .lt 8, 3) := by decide +kernel
theorem dX11_repeat_5 : decode cX11_repeat 5 = .ok (.iload_n 1, 1) := by decide +kernel
theorem dX11_repeat_6 : decode cX11_repeat 6 = .ok (.iconst 5, 1) := by decide +kernel
theorem dX11_repeat_7 : decode cX11_repeat 7 = .ok (.if_icmp .le 13, 3) := by decide +kernel
theorem dX11_repeat_10 : decode cX11_repeat 10 = .ok (.new 58, 3) := by decide +kernel
theorem dX11_repeat_13 : decode cX11_repeat 13 = .ok (.dup, 1) := by decide +kernel
theorem dX11_repeat_14 : decode cX11_repeat 14 = .ok (.ldc 97, 2) := by decide +kernel
theorem dX11_repeat_16 : decode cX11_repeat 16 = .ok (.invokespecial 62, 3) := by decide +kernel
theorem dX11_repeat_19 : decode cX11_repeat 19 = .ok (.athrow, 1) := by decide +kernel
theorem dX11_repeat_20 : decode cX11_repeat 20 = .ok (.aload_n 0, 1) := by decide +kernel
theorem dX11_repeat_21 : decode cX11_repeat 21 = .ok (.new 99, 3) := by decide +kernel
theorem dX11_repeat_24 : decode cX11_repeat 24 = .ok (.dup, 1) := by decide +kernel
theorem dX11_repeat_25 : decode cX11_repeat 25 = .ok (.iload_n 1, 1) := by decide +kernel
theorem dX11_repeat_26 : decode cX11_repeat 26 = .ok (.invokespecial 101, 3) := by decide +kernel
theorem dX11_repeat_29 : decode cX11_repeat 29 = .ok (.invokevirtual 102, 3) := by decide +kernel
theorem dX11_repeat_32 : decode cX11_repeat 32 = .ok (.ireturn, 1) := by decide +kernel
theorem dX11_block_0 : decode cX11_block 0 = .ok (.iload_n 1, 1) := by decide +kernel
theorem dX11_block_1 : decode cX11_block 1 = .ok (.iconst 1, 1) := by decide +kernel
theorem dX11_block_2 : decode cX11_block 2 = .ok (.if_icmp .lt 8, 3) := by decide +kernel
theorem dX11_block_5 : decode cX11_block 5 = .ok (.iload_n 1, 1) := by decide +kernel
theorem dX11_block_6 : decode cX11_block 6 = .ok (.iconst 4, 1) := by decide +kernel
theorem dX11_block_7 : decode cX11_block 7 = .ok (.if_icmp .le 13, 3) := by decide +kernel
theorem dX11_block_10 : decode cX11_block 10 = .ok (.new 58, 3) := by decide +kernel
theorem dX11_block_13 : decode cX11_block 13 = .ok (.dup, 1) := by decide +kernel
theorem dX11_block_14 : decode cX11_block 14 = .ok (.ldc 106, 2) := by decide +kernel
theorem dX11_block_16 : decode cX11_block 16 = .ok (.invokespecial 62, 3) := by decide +kernel
theorem dX11_block_19 : decode cX11_block 19 = .ok (.athrow, 1) := by decide +kernel
theorem dX11_block_20 : decode cX11_block 20 = .ok (.iload_n 2, 1) := by decide +kernel
theorem dX11_block_21 : decode cX11_block 21 = .ok (.iload_n 1, 1) := by decide +kernel
theorem dX11_block_22 : decode cX11_block 22 = .ok (.if_icmp .lt 9, 3) := by decide +kernel
theorem dX11_block_25 : decode cX11_block 25 = .ok (.iload_n 2, 1) := by decide +kernel
theorem dX11_block_26 : decode cX11_block 26 = .ok (.bipush 10, 2) := by decide +kernel
theorem dX11_block_28 : decode cX11_block 28 = .ok (.if_icmp .le 13, 3) := by decide +kernel
theorem dX11_block_31 : decode cX11_block 31 = .ok (.new 58, 3) := by decide +kernel
theorem dX11_block_34 : decode cX11_block 34 = .ok (.dup, 1) := by decide +kernel
theorem dX11_block_35 : decode cX11_block 35 = .ok (.ldc 108, 2) := by decide +kernel
theorem dX11_block_37 : decode cX11_block 37 = .ok (.invokespecial 62, 3) := by decide +kernel
theorem dX11_block_40 : decode cX11_block 40 = .ok (.athrow, 1) := by decide +kernel
theorem dX11_block_41 : decode cX11_block 41 = .ok (.iload_n 3, 1) := by decide +kernel
theorem dX11_block_42 : decode cX11_block 42 = .ok (.iload_n 2, 1) := by decide +kernel
theorem dX11_block_43 : decode cX11_block 43 = .ok (.invokestatic 65, 3) := by decide +kernel
theorem dX11_block_46 : decode cX11_block 46 = .ok (.ifCond .eq 49, 3) := by decide +kernel
theorem dX11_block_49 : decode cX11_block 49 = .ok (.iload_n 1, 1) := by decide +kernel
theorem dX11_block_50 : decode cX11_block 50 = .ok (.iconst 2, 1) := by decide +kernel
theorem dX11_block_51 : decode cX11_block 51 = .ok (.if_icmp .lt 12, 3) := by decide +kernel
theorem dX11_block_54 : decode cX11_block 54 = .ok (.iload 4, 2) := by decide +kernel
theorem dX11_block_56 : decode cX11_block 56 = .ok (.iload_n 2, 1) := by decide +kernel
theorem dX11_block_57 : decode cX11_block 57 = .ok (.invokestatic 65, 3) := by decide +kernel
theorem dX11_block_60 : decode cX11_block 60 = .ok (.ifCond .eq 35, 3) := by decide +kernel
theorem dX11_block_63 : decode cX11_block 63 = .ok (.iload_n 1, 1) := by decide +kernel
theorem dX11_block_64 : decode cX11_block 64 = .ok (.iconst 3, 1) := by decide +kernel
theorem dX11_block_65 : decode cX11_block 65 = .ok (.if_icmp .lt 12, 3) := by decide +kernel
theorem dX11_block_68 : decode cX11_block 68 = .ok (.iload 5, 2) := by decide +kernel
theorem dX11_block_70 : decode cX11_block 70 = .ok (.iload_n 2, 1) := by decide +kernel
theorem dX11_block_71 : decode cX11_block 71 = .ok (.invokestatic 65, 3) := by decide +kernel
theorem dX11_block_74 : decode cX11_block 74 = .ok (.ifCond .eq 21, 3) := by decide +kernel
theorem dX11_block_77 : decode cX11_block 77 = .ok (.iload_n 1, 1) := by decide +kernel
theorem dX11_block_78 : decode cX11_block 78 = .ok (.iconst 4, 1) := by decide +kernel
theorem dX11_block_79 : decode cX11_block 79 = .ok (.if_icmp .lt 12, 3) := by decide +kernel
theorem dX11_block_82 : decode cX11_block 82 = .ok (.iload 6, 2) := by decide +kernel
theorem dX11_block_84 : decode cX11_block 84 = .ok (.iload_n 2, 1) := by decide +kernel
theorem dX11_block_85 : decode cX11_block 85 = .ok (.invokestatic 65, 3) := by decide +kernel
theorem dX11_block_88 : decode cX11_block 88 = .ok (.ifCond .eq 7, 3) := by decide +kernel
theorem dX11_block_91 : decode cX11_block 91 = .ok (.iconst 1, 1) := by decide +kernel
theorem dX11_block_92 : decode cX11_block 92 = .ok (.goto 4, 3) := by decide +kernel
theorem dX11_block_95 : decode cX11_block 95 = .ok (.iconst 0, 1) := by decide +kernel
theorem dX11_block_96 : decode cX11_block 96 = .ok (.istore 7, 2) := by decide +kernel
theorem dX11_block_98 : decode cX11_block 98 = .ok (.iload 7, 2) := by decide +kernel
theorem dX11_block_100 : decode cX11_block 100 = .ok (.ifCond .ne 13, 3) := by decide +kernel
theorem dX11_block_103 : decode cX11_block 103 = .ok (.new 58, 3) := by decide +kernel
theorem dX11_block_106 : decode cX11_block 106 = .ok (.dup, 1) := by decide +kernel
theorem dX11_block_107 : decode cX11_block 107 = .ok (.ldc 110, 2) := by decide +kernel
theorem dX11_block_109 : decode cX11_block 109 = .ok (.invokespecial 62, 3) := by decide +kernel
theorem dX11_block_112 : decode cX11_block 112 = .ok (.athrow, 1) := by decide +kernel
theorem dX11_block_113 : decode cX11_block 113 = .ok (.aload_n 0, 1) := by decide +kernel
theorem dX11_block_114 : decode cX11_block 114 = .ok (.new 112, 3) := by decide +kernel
theorem dX11_block_117 : decode cX11_block 117 = .ok (.dup, 1) := by decide +kernel
theorem dX11_block_118 : decode cX11_block 118 = .ok (.iload_n 1, 1) := by decide +kernel
theorem dX11_block_119 : decode cX11_block 119 = .ok (.iload_n 2, 1) := by decide +kernel
theorem dX11_block_120 : decode cX11_block 120 = .ok (.iload_n 3, 1) := by decide +kernel
theorem dX11_block_121 : decode cX11_block 121 = .ok (.iload 4, 2) := by decide +kernel
theorem dX11_block_123 : decode cX11_block 123 = .ok (.iload 5, 2) := by decide +kernel
theorem dX11_block_125 : decode cX11_block 125 = .ok (.iload 6, 2) := by decide +kernel
theorem dX11_block_127 : decode cX11_block 127 = .ok (.invokespecial 114, 3) := by decide +kernel
theorem dX11_block_130 : decode cX11_block 130 = .ok (.invokevirtual 102, 3) := by decide +kernel
theorem dX11_block_133 : decode cX11_block 133 = .ok (.ireturn, 1) := by decide +kernel
theorem dX11_check_0 : decode cX11_check 0 = .ok (.iload_n 1, 1) := by decide +kernel
theorem dX11_check_1 : decode cX11_check 1 = .ok (.iconst 2, 1) := by decide +kernel
theorem dX11_check_2 : decode cX11_check 2 = .ok (.if_icmp .lt 10, 3) := by decide +kernel
theorem dX11_check_5 : decode cX11_check 5 = .ok (.iload_n 1, 1) := by decide +kernel
theorem dX11_check_6 : decode cX11_check 6 = .ok (.sipush 511, 3) := by decide +kernel
theorem dX11_check_9 : decode cX11_check 9 = .ok (.if_icmp .le 13, 3) := by decide +kernel
theorem dX11_check_12 : decode cX11_check 12 = .ok (.new 58, 3) := by decide +kernel
theorem dX11_check_15 : decode cX11_check 15 = .ok (.dup, 1) := by decide +kernel
theorem dX11_check_16 : decode cX11_check 16 = .ok (.ldc 117, 2) := by decide +kernel
theorem dX11_check_18 : decode cX11_check 18 = .ok (.invokespecial 62, 3) := by decide +kernel
theorem dX11_check_21 : decode cX11_check 21 = .ok (.athrow, 1) := by decide +kernel
theorem dX11_check_22 : decode cX11_check 22 = .ok (.iload_n 2, 1) := by decide +kernel
theorem dX11_check_23 : decode cX11_check 23 = .ok (.iconst 1, 1) := by decide +kernel
theorem dX11_check_24 : decode cX11_check 24 = .ok (.if_icmp .lt 9, 3) := by decide +kernel
theorem dX11_check_27 : decode cX11_check 27 = .ok (.iload_n 2, 1) := by decide +kernel
theorem dX11_check_28 : decode cX11_check 28 = .ok (.bipush 32, 2) := by decide +kernel
theorem dX11_check_30 : decode cX11_check 30 = .ok (.if_icmp .le 13, 3) := by decide +kernel
theorem dX11_check_33 : decode cX11_check 33 = .ok (.new 58, 3) := by decide +kernel
theorem dX11_check_36 : decode cX11_check 36 = .ok (.dup, 1) := by decide +kernel
theorem dX11_check_37 : decode cX11_check 37 = .ok (.ldc 119, 2) := by decide +kernel
theorem dX11_check_39 : decode cX11_check 39 = .ok (.invokespecial 62, 3) := by decide +kernel
theorem dX11_check_42 : decode cX11_check 42 = .ok (.athrow, 1) := by decide +kernel
theorem dX11_check_43 : decode cX11_check 43 = .ok (.aload_n 0, 1) := by decide +kernel
theorem dX11_check_44 : decode cX11_check 44 = .ok (.new 121, 3) := by decide +kernel
theorem dX11_check_47 : decode cX11_check 47 = .ok (.dup, 1) := by decide +kernel
theorem dX11_check_48 : decode cX11_check 48 = .ok (.iload_n 1, 1) := by decide +kernel
theorem dX11_check_49 : decode cX11_check 49 = .ok (.iload_n 2, 1) := by decide +kernel
theorem dX11_check_50 : decode cX11_check 50 = .ok (.invokespecial 123, 3) := by decide +kernel
theorem dX11_check_53 : decode cX11_check 53 = .ok (.invokevirtual 102, 3) := by decide +kernel
theorem dX11_check_56 : decode cX11_check 56 = .ok (.ireturn, 1) := by decide +kernel
theorem dX11_trail_0 : decode cX11_trail 0 = .ok (.iload_n 1, 1) := by decide +kernel
theorem dX11_trail_1 : decode cX11_trail 1 = .ok (.iconst 1, 1) := by decide +kernel
theorem dX11_trail_2 : decode cX11_trail 2 = .ok (.if_icmp .lt 8, 3) := by decide +kernel
theorem dX11_trail_5 : decode cX11_trail 5 = .ok (.iload_n 1, 1) := by decide +kernel
theorem dX11_trail_6 : decode cX11_trail 6 = .ok (.iconst 4, 1) := by decide +kernel
theorem dX11_trail_7 : decode cX11_trail 7 = .ok (.if_icmp .le 13, 3) := by decide +kernel
theorem dX11_trail_10 : decode cX11_trail 10 = .ok (.new 58, 3) := by decide +kernel
theorem dX11_trail_13 : decode cX11_trail 13 = .ok (.dup, 1) := by decide +kernel
theorem dX11_trail_14 : decode cX11_trail 14 = .ok (.ldc 126, 2) := by decide +kernel
theorem dX11_trail_16 : decode cX11_trail 16 = .ok (.invokespecial 62, 3) := by decide +kernel
theorem dX11_trail_19 : decode cX11_trail 19 = .ok (.athrow, 1) := by decide +kernel
theorem dX11_trail_20 : decode cX11_trail 20 = .ok (.iload_n 1, 1) := by decide +kernel
theorem dX11_trail_21 : decode cX11_trail 21 = .ok (.iconst 1, 1) := by decide +kernel
theorem dX11_trail_22 : decode cX11_trail 22 = .ok (.iadd, 1) := by decide +kernel
theorem dX11_trail_23 : decode cX11_trail 23 = .ok (.istore 5, 2) := by decide +kernel
theorem dX11_trail_25 : decode cX11_trail 25 = .ok (.iload_n 2, 1) := by decide +kernel
theorem dX11_trail_26 : decode cX11_trail 26 = .ok (.ifCond .eq 25, 3) := by decide +kernel
theorem dX11_trail_29 : decode cX11_trail 29 = .ok (.iload_n 3, 1) := by decide +kernel
theorem dX11_trail_30 : decode cX11_trail 30 = .ok (.ifCond .eq 21, 3) := by decide +kernel
theorem dX11_trail_33 : decode cX11_trail 33 = .ok (.iload_n 2, 1) := by decide +kernel
theorem dX11_trail_34 : decode cX11_trail 34 = .ok (.iload 5, 2) := by decide +kernel
theorem dX11_trail_36 : decode cX11_trail 36 = .ok (.invokestatic 65, 3) := by decide +kernel
theorem dX11_trail_39 : decode cX11_trail 39 = .ok (.ifCond .eq 12, 3) := by decide +kernel
theorem dX11_trail_42 : decode cX11_trail 42 = .ok (.iload_n 3, 1) := by decide +kernel
theorem dX11_trail_43 : decode cX11_trail 43 = .ok (.iload 5, 2) := by decide +kernel
theorem dX11_trail_45 : decode cX11_trail 45 = .ok (.invokestatic 65, 3) := by decide +kernel
theorem dX11_trail_48 : decode cX11_trail 48 = .ok (.ifCond .ne 13, 3) := by decide +kernel
theorem dX11_trail_51 : decode cX11_trail 51 = .ok (.new 58, 3) := by decide +kernel
theorem dX11_trail_54 : decode cX11_trail 54 = .ok (.dup, 1) := by decide +kernel
theorem dX11_trail_55 : decode cX11_trail 55 = .ok (.ldc 128, 2) := by decide +kernel
theorem dX11_trail_57 : decode cX11_trail 57 = .ok (.invokespecial 62, 3) := by decide +kernel
theorem dX11_trail_60 : decode cX11_trail 60 = .ok (.athrow, 1) := by decide +kernel
theorem dX11_trail_61 : decode cX11_trail 61 = .ok (.iload 4, 2) := by decide +kernel
theorem dX11_trail_63 : decode cX11_trail 63 = .ok (.iload 5, 2) := by decide +kernel
theorem dX11_trail_65 : decode cX11_trail 65 = .ok (.invokestatic 65, 3) := by decide +kernel
theorem dX11_trail_68 : decode cX11_trail 68 = .ok (.ifCond .ne 13, 3) := by decide +kernel
theorem dX11_trail_71 : decode cX11_trail 71 = .ok (.new 58, 3) := by decide +kernel
theorem dX11_trail_74 : decode cX11_trail 74 = .ok (.dup, 1) := by decide +kernel
theorem dX11_trail_75 : decode cX11_trail 75 = .ok (.ldc 130, 2) := by decide +kernel
theorem dX11_trail_77 : decode cX11_trail 77 = .ok (.invokespecial 62, 3) := by decide +kernel
theorem dX11_trail_80 : decode cX11_trail 80 = .ok (.athrow, 1) := by decide +kernel
theorem dX11_trail_81 : decode cX11_trail 81 = .ok (.aload_n 0, 1) := by decide +kernel
theorem dX11_trail_82 : decode cX11_trail 82 = .ok (.new 132, 3) := by decide +kernel
theorem dX11_trail_85 : decode cX11_trail 85 = .ok (.dup, 1) := by decide +kernel
theorem dX11_trail_86 : decode cX11_trail 86 = .ok (.iload_n 1, 1) := by decide +kernel
theorem dX11_trail_87 : decode cX11_trail 87 = .ok (.iload_n 2, 1) := by decide +kernel
theorem dX11_trail_88 : decode cX11_trail 88 = .ok (.iload_n 3, 1) := by decide +kernel
theorem dX11_trail_89 : decode cX11_trail 89 = .ok (.iload 4, 2) := by decide +kernel
theorem dX11_trail_91 : decode cX11_trail 91 = .ok (.aload_n 0, 1) := by decide +kernel
theorem dX11_trail_92 : decode cX11_trail 92 = .ok (.getfield 54, 3) := by decide +kernel
theorem dX11_trail_95 : decode cX11_trail 95 = .ok (.invokespecial 134, 3) := by decide +kernel
theorem dX11_trail_98 : decode cX11_trail 98 = .ok (.invokevirtual 102, 3) := by decide +kernel
theorem dX11_trail_101 : decode cX11_trail 101 = .ok (.ireturn, 1) := by decide +kernel
theorem dX11_weave_0 : decode cX11_weave 0 = .ok (.iload_n 1, 1) := by decide +kernel
theorem dX11_weave_1 : decode cX11_weave 1 = .ok (.iconst 1, 1) := by decide +kernel
theorem dX11_weave_2 : decode cX11_weave 2 = .ok (.if_icmp .lt 20, 3) := by decide +kernel
theorem dX11_weave_5 : decode cX11_weave 5 = .ok (.iload_n 1, 1) := by decide +kernel
theorem dX11_weave_6 : decode cX11_weave 6 = .ok (.bipush 10, 2) := by decide +kernel
theorem dX11_weave_8 : decode cX11_weave 8 = .ok (.if_icmp .gt 14, 3) := by decide +kernel
theorem dX11_weave_11 : decode cX11_weave 11 = .ok (.iload_n 2, 1) := by decide +kernel
theorem dX11_weave_12 : decode cX11_weave 12 = .ok (.iconst 1, 1) := by decide +kernel
theorem dX11_weave_13 : decode cX11_weave 13 = .ok (.if_icmp .lt 9, 3) := by decide +kernel
theorem dX11_weave_16 : decode cX11_weave 16 = .ok (.iload_n 2, 1) := by decide +kernel
theorem dX11_weave_17 : decode cX11_weave 17 = .ok (.bipush 10, 2) := by decide +kernel
theorem dX11_weave_19 : decode cX11_weave 19 = .ok (.if_icmp .le 13, 3) := by decide +kernel
theorem dX11_weave_22 : decode cX11_weave 22 = .ok (.new 58, 3) := by decide +kernel
theorem dX11_weave_25 : decode cX11_weave 25 = .ok (.dup, 1) := by decide +kernel
theorem dX11_weave_26 : decode cX11_weave 26 = .ok (.ldc 137, 2) := by decide +kernel
theorem dX11_weave_28 : decode cX11_weave 28 = .ok (.invokespecial 62, 3) := by decide +kernel
theorem dX11_weave_31 : decode cX11_weave 31 = .ok (.athrow, 1) := by decide +kernel
theorem dX11_weave_32 : decode cX11_weave 32 = .ok (.aload_n 0, 1) := by decide +kernel
theorem dX11_weave_33 : decode cX11_weave 33 = .ok (.new 139, 3) := by decide +kernel
theorem dX11_weave_36 : decode cX11_weave 36 = .ok (.dup, 1) := by decide +kernel
theorem dX11_weave_37 : decode cX11_weave 37 = .ok (.iload_n 1, 1) := by decide +kernel
theorem dX11_weave_38 : decode cX11_weave 38 = .ok (.iload_n 2, 1) := by decide +kernel
theorem dX11_weave_39 : decode cX11_weave 39 = .ok (.invokespecial 141, 3) := by decide +kernel
theorem dX11_weave_42 : decode cX11_weave 42 = .ok (.invokevirtual 102, 3) := by decide +kernel
theorem dX11_weave_45 : decode cX11_weave 45 = .ok (.ireturn, 1) := by decide +kernel
theorem dX11_drop_0 : decode cX11_drop 0 = .ok (.aload_n 0, 1) := by decide +kernel
theorem dX11_drop_1 : decode cX11_drop 1 = .ok (.getfield 10, 3) := by decide +kernel
theorem dX11_drop_4 : decode cX11_drop 4 = .ok (.invokevirtual 142, 3) := by decide +kernel
theorem dX11_drop_7 : decode cX11_drop 7 = .ok (.ifCond .ne 13, 3) := by decide +kernel
theorem dX11_drop_10 : decode cX11_drop 10 = .ok (.new 79, 3) := by decide +kernel
theorem dX11_drop_13 : decode cX11_drop 13 = .ok (.dup, 1) := by decide +kernel
theorem dX11_drop_14 : decode cX11_drop 14 = .ok (.ldc 145, 2) := by decide +kernel
theorem dX11_drop_16 : decode cX11_drop 16 = .ok (.invokespecial 83, 3) := by decide +kernel
theorem dX11_drop_19 : decode cX11_drop 19 = .ok (.athrow, 1) := by decide +kernel
theorem dX11_drop_20 : decode cX11_drop 20 = .ok (.aload_n 0, 1) := by decide +kernel
theorem dX11_drop_21 : decode cX11_drop 21 = .ok (.getfield 10, 3) := by decide +kernel
theorem dX11_drop_24 : decode cX11_drop 24 = .ok (.invokevirtual 147, 3) := by decide +kernel
theorem dX11_drop_27 : decode cX11_drop 27 = .ok (.aload_n 0, 1) := by decide +kernel
theorem dX11_drop_28 : decode cX11_drop 28 = .ok (.invokevirtual 94, 3) := by decide +kernel
theorem dX11_drop_31 : decode cX11_drop 31 = .ok (.aload_n 0, 1) := by decide +kernel
theorem dX11_drop_32 : decode cX11_drop 32 = .ok (.getfield 10, 3) := by decide +kernel
theorem dX11_drop_35 : decode cX11_drop 35 = .ok (.invokevirtual 142, 3) := by decide +kernel
theorem dX11_drop_38 : decode cX11_drop 38 = .ok (.ireturn, 1) := by decide +kernel
theorem dX11_channel_0 : decode cX11_channel 0 = .ok (.iload_n 1, 1) := by decide +kernel
theorem dX11_channel_1 : decode cX11_channel 1 = .ok (.ifCond .lt 8, 3) := by decide +kernel
theorem dX11_channel_4 : decode cX11_channel 4 = .ok (.iload_n 1, 1) := by decide +kernel
theorem dX11_channel_5 : decode cX11_channel 5 = .ok (.iconst 3, 1) := by decide +kernel
theorem dX11_channel_6 : decode cX11_channel 6 = .ok (.if_icmp .le 13, 3) := by decide +kernel
theorem dX11_channel_9 : decode cX11_channel 9 = .ok (.new 58, 3) := by decide +kernel
theorem dX11_channel_12 : decode cX11_channel 12 = .ok (.dup, 1) := by decide +kernel
theorem dX11_channel_13 : decode cX11_channel 13 = .ok (.ldc 150, 2) := by decide +kernel
theorem dX11_channel_15 : decode cX11_channel 15 = .ok (.invokespecial 62, 3) := by decide +kernel
theorem dX11_channel_18 : decode cX11_channel 18 = .ok (.athrow, 1) := by decide +kernel
theorem dX11_channel_19 : decode cX11_channel 19 = .ok (.iload_n 1, 1) := by decide +kernel
theorem dX11_channel_20 : decode cX11_channel 20 = .ok (.iconst 1, 1) := by decide +kernel
theorem dX11_channel_21 : decode cX11_channel 21 = .ok (.if_icmp .eq 8, 3) := by decide +kernel
theorem dX11_channel_24 : decode cX11_channel 24 = .ok (.iload_n 1, 1) := by decide +kernel
theorem dX11_channel_25 : decode cX11_channel 25 = .ok (.iconst 3, 1) := by decide +kernel
theorem dX11_channel_26 : decode cX11_channel 26 = .ok (.if_icmp .ne 34, 3) := by decide +kernel
theorem dX11_channel_29 : decode cX11_channel 29 = .ok (.iload_n 2, 1) := by decide +kernel
theorem dX11_channel_30 : decode cX11_channel 30 = .ok (.ifCond .lt 20, 3) := by decide +kernel
theorem dX11_channel_33 : decode cX11_channel 33 = .ok (.iload_n 2, 1) := by decide +kernel
theorem dX11_channel_34 : decode cX11_channel 34 = .ok (.sipush 1000, 3) := by decide +kernel
theorem dX11_channel_37 : decode cX11_channel 37 = .ok (.if_icmp .gt 13, 3) := by decide +kernel
theorem dX11_channel_40 : decode cX11_channel 40 = .ok (.iload_n 3, 1) := by decide +kernel
theorem dX11_channel_41 : decode cX11_channel 41 = .ok (.ifCond .lt 9, 3) := by decide +kernel
theorem dX11_channel_44 : decode cX11_channel 44 = .ok (.iload_n 3, 1) := by decide +kernel
theorem dX11_channel_45 : decode cX11_channel 45 = .ok (.ldc 152, 2) := by decide +kernel
theorem dX11_channel_47 : decode cX11_channel 47 = .ok (.if_icmp .le 13, 3) := by decide +kernel
theorem dX11_channel_50 : decode cX11_channel 50 = .ok (.new 58, 3) := by decide +kernel
theorem dX11_channel_53 : decode cX11_channel 53 = .ok (.dup, 1) := by decide +kernel
theorem dX11_channel_54 : decode cX11_channel 54 = .ok (.ldc 153, 2) := by decide +kernel
theorem dX11_channel_56 : decode cX11_channel 56 = .ok (.invokespecial 62, 3) := by decide +kernel
theorem dX11_channel_59 : decode cX11_channel 59 = .ok (.athrow, 1) := by decide +kernel
theorem dX11_channel_60 : decode cX11_channel 60 = .ok (.iload_n 1, 1) := by decide +kernel
theorem dX11_channel_61 : decode cX11_channel 61 = .ok (.iconst 2, 1) := by decide +kernel
theorem dX11_channel_62 : decode cX11_channel 62 = .ok (.if_icmp .ne 49, 3) := by decide +kernel
theorem dX11_channel_65 : decode cX11_channel 65 = .ok (.iload_n 2, 1) := by decide +kernel
theorem dX11_channel_66 : decode cX11_channel 66 = .ok (.ifCond .lt 35, 3) := by decide +kernel
theorem dX11_channel_69 : decode cX11_channel 69 = .ok (.iload_n 2, 1) := by decide +kernel
theorem dX11_channel_70 : decode cX11_channel 70 = .ok (.sipush 320, 3) := by decide +kernel
theorem dX11_channel_73 : decode cX11_channel 73 = .ok (.if_icmp .gt 28, 3) := by decide +kernel
theorem dX11_channel_76 : decode cX11_channel 76 = .ok (.iload_n 3, 1) := by decide +kernel
theorem dX11_channel_77 : decode cX11_channel 77 = .ok (.iconst 1, 1) := by decide +kernel
theorem dX11_channel_78 : decode cX11_channel 78 = .ok (.if_icmp .lt 23, 3) := by decide +kernel
theorem dX11_channel_81 : decode cX11_channel 81 = .ok (.iload_n 3, 1) := by decide +kernel
theorem dX11_channel_82 : decode cX11_channel 82 = .ok (.bipush 50, 2) := by decide +kernel
theorem dX11_channel_84 : decode cX11_channel 84 = .ok (.if_icmp .gt 17, 3) := by decide +kernel
theorem dX11_channel_87 : decode cX11_channel 87 = .ok (.iload 4, 2) := by decide +kernel
theorem dX11_channel_89 : decode cX11_channel 89 = .ok (.iload_n 3, 1) := by decide +kernel
theorem dX11_channel_90 : decode cX11_channel 90 = .ok (.if_icmp .lt 11, 3) := by decide +kernel
theorem dX11_channel_93 : decode cX11_channel 93 = .ok (.iload 4, 2) := by decide +kernel
theorem dX11_channel_95 : decode cX11_channel 95 = .ok (.sipush 320, 3) := by decide +kernel
theorem dX11_channel_98 : decode cX11_channel 98 = .ok (.if_icmp .le 13, 3) := by decide +kernel
theorem dX11_channel_101 : decode cX11_channel 101 = .ok (.new 58, 3) := by decide +kernel
theorem dX11_channel_104 : decode cX11_channel 104 = .ok (.dup, 1) := by decide +kernel
theorem dX11_channel_105 : decode cX11_channel 105 = .ok (.ldc 155, 2) := by decide +kernel
theorem dX11_channel_107 : decode cX11_channel 107 = .ok (.invokespecial 62, 3) := by decide +kernel
theorem dX11_channel_110 : decode cX11_channel 110 = .ok (.athrow, 1) := by decide +kernel
theorem dX11_channel_111 : decode cX11_channel 111 = .ok (.aload_n 0, 1) := by decide +kernel
theorem dX11_channel_112 : decode cX11_channel 112 = .ok (.getfield 19, 3) := by decide +kernel
theorem dX11_channel_115 : decode cX11_channel 115 = .ok (.invokevirtual 157, 3) := by decide +kernel
theorem dX11_channel_118 : decode cX11_channel 118 = .ok (.istore 5, 2) := by decide +kernel
theorem dX11_channel_120 : decode cX11_channel 120 = .ok (.aload_n 0, 1) := by decide +kernel
theorem dX11_channel_121 : decode cX11_channel 121 = .ok (.getfield 19, 3) := by decide +kernel
theorem dX11_channel_124 : decode cX11_channel 124 = .ok (.iload_n 1, 1) := by decide +kernel
theorem dX11_channel_125 : decode cX11_channel 125 = .ok (.iload_n 2, 1) := by decide +kernel
theorem dX11_channel_126 : decode cX11_channel 126 = .ok (.iload_n 3, 1) := by decide +kernel
theorem dX11_channel_127 : decode cX11_channel 127 = .ok (.iload 4, 2) := by decide +kernel
theorem dX11_channel_129 : decode cX11_channel 129 = .ok (.invokevirtual 160, 3) := by decide +kernel
theorem dX11_channel_132 : decode cX11_channel 132 = .ok (.aload_n 0, 1) := by decide +kernel
theorem dX11_channel_133 : decode cX11_channel 133 = .ok (.invokevirtual 94, 3) := by decide +kernel
theorem dX11_channel_136 : decode cX11_channel 136 = .ok (.iload 5, 2) := by decide +kernel
theorem dX11_channel_138 : decode cX11_channel 138 = .ok (.ireturn, 1) := by decide +kernel
theorem dX11_mark_0 : decode cX11_mark 0 = .ok (.iload_n 1, 1) := by decide +kernel
theorem dX11_mark_1 : decode cX11_mark 1 = .ok (.ifCond .lt 10, 3) := by decide +kernel
theorem dX11_mark_4 : decode cX11_mark 4 = .ok (.iload_n 1, 1) := by decide +kernel
theorem dX11_mark_5 : decode cX11_mark 5 = .ok (.sipush 320, 3) := by decide +kernel
theorem dX11_mark_8 : decode cX11_mark 8 = .ok (.if_icmp .lt 13, 3) := by decide +kernel
theorem dX11_mark_11 : decode cX11_mark 11 = .ok (.new 164, 3) := by decide +kernel
theorem dX11_mark_14 : decode cX11_mark 14 = .ok (.dup, 1) := by decide +kernel
theorem dX11_mark_15 : decode cX11_mark 15 = .ok (.ldc 166, 2) := by decide +kernel
theorem dX11_mark_17 : decode cX11_mark 17 = .ok (.invokespecial 168, 3) := by decide +kernel
theorem dX11_mark_20 : decode cX11_mark 20 = .ok (.athrow, 1) := by decide +kernel
theorem dX11_mark_21 : decode cX11_mark 21 = .ok (.aload_n 0, 1) := by decide +kernel
theorem dX11_mark_22 : decode cX11_mark 22 = .ok (.getfield 31, 3) := by decide +kernel
theorem dX11_mark_25 : decode cX11_mark 25 = .ok (.iload_n 1, 1) := by decide +kernel
theorem dX11_mark_26 : decode cX11_mark 26 = .ok (.invokevirtual 169, 3) := by decide +kernel
theorem dX11_mark_29 : decode cX11_mark 29 = .ok (.aload_n 0, 1) := by decide +kernel
theorem dX11_mark_30 : decode cX11_mark 30 = .ok (.invokevirtual 94, 3) := by decide +kernel
theorem dX11_mark_33 : decode cX11_mark 33 = .ok (.aload_n 0, 1) := by decide +kernel
theorem dX11_mark_34 : decode cX11_mark 34 = .ok (.getfield 31, 3) := by decide +kernel
theorem dX11_mark_37 : decode cX11_mark 37 = .ok (.invokevirtual 172, 3) := by decide +kernel
theorem dX11_mark_40 : decode cX11_mark 40 = .ok (.ireturn, 1) := by decide +kernel
theorem dX11_length_0 : decode cX11_length 0 = .ok (.aload_n 0, 1) := by decide +kernel
theorem dX11_length_1 : decode cX11_length 1 = .ok (.getfield 41, 3) := by decide +kernel
theorem dX11_length_4 : decode cX11_length 4 = .ok (.iconst 0, 1) := by decide +kernel
theorem dX11_length_5 : decode cX11_length 5 = .ok (.invokevirtual 71, 3) := by decide +kernel
theorem dX11_length_8 : decode cX11_length 8 = .ok (.invokevirtual 75, 3) := by decide +kernel
theorem dX11_length_11 : decode cX11_length 11 = .ok (.ireturn, 1) := by decide +kernel
theorem dX11_stages_0 : decode cX11_stages 0 = .ok (.aload_n 0, 1) := by decide +kernel
theorem dX11_stages_1 : decode cX11_stages 1 = .ok (.getfield 10, 3) := by decide +kernel
theorem dX11_stages_4 : decode cX11_stages 4 = .ok (.invokevirtual 142, 3) := by decide +kernel
theorem dX11_stages_7 : decode cX11_stages 7 = .ok (.ireturn, 1) := by decide +kernel
theorem dX11_ofStage_0 : decode cX11_ofStage 0 = .ok (.aload_n 0, 1) := by decide +kernel
theorem dX11_ofStage_1 : decode cX11_ofStage 1 = .ok (.getfield 10, 3) := by decide +kernel
theorem dX11_ofStage_4 : decode cX11_ofStage 4 = .ok (.iload_n 1, 1) := by decide +kernel
theorem dX11_ofStage_5 : decode cX11_ofStage 5 = .ok (.invokevirtual 175, 3) := by decide +kernel
theorem dX11_ofStage_8 : decode cX11_ofStage 8 = .ok (.astore_n 3, 1) := by decide +kernel
theorem dX11_ofStage_9 : decode cX11_ofStage 9 = .ok (.aload_n 3, 1) := by decide +kernel
theorem dX11_ofStage_10 : decode cX11_ofStage 10 = .ok (.ifnonnull 13, 3) := by decide +kernel
theorem dX11_ofStage_13 : decode cX11_ofStage 13 = .ok (.new 164, 3) := by decide +kernel
theorem dX11_ofStage_16 : decode cX11_ofStage 16 = .ok (.dup, 1) := by decide +kernel
theorem dX11_ofStage_17 : decode cX11_ofStage 17 = .ok (.ldc 179, 2) := by decide +kernel
theorem dX11_ofStage_19 : decode cX11_ofStage 19 = .ok (.invokespecial 168, 3) := by decide +kernel
theorem dX11_ofStage_22 : decode cX11_ofStage 22 = .ok (.athrow, 1) := by decide +kernel
theorem dX11_ofStage_23 : decode cX11_ofStage 23 = .ok (.iload_n 2, 1) := by decide +kernel
theorem dX11_ofStage_24 : decode cX11_ofStage 24 = .ok (.tableswitch 89 0 4 #[36, 41, 53, 67, 74], 36) := by decide +kernel
theorem dX11_ofStage_60 : decode cX11_ofStage 60 = .ok (.aload_n 3, 1) := by decide +kernel
theorem dX11_ofStage_61 : decode cX11_ofStage 61 = .ok (.invokevirtual 181, 3) := by decide +kernel
theorem dX11_ofStage_64 : decode cX11_ofStage 64 = .ok (.ireturn, 1) := by decide +kernel
theorem dX11_ofStage_65 : decode cX11_ofStage 65 = .ok (.aload_n 0, 1) := by decide +kernel
theorem dX11_ofStage_66 : decode cX11_ofStage 66 = .ok (.getfield 41, 3) := by decide +kernel
theorem dX11_ofStage_69 : decode cX11_ofStage 69 = .ok (.iload_n 1, 1) := by decide +kernel
theorem dX11_ofStage_70 : decode cX11_ofStage 70 = .ok (.invokevirtual 71, 3) := by decide +kernel
theorem dX11_ofStage_73 : decode cX11_ofStage 73 = .ok (.invokevirtual 75, 3) := by decide +kernel
theorem dX11_ofStage_76 : decode cX11_ofStage 76 = .ok (.ireturn, 1) := by decide +kernel
theorem dX11_ofStage_77 : decode cX11_ofStage 77 = .ok (.aload_n 0, 1) := by decide +kernel
theorem dX11_ofStage_78 : decode cX11_ofStage 78 = .ok (.getfield 41, 3) := by decide +kernel
theorem dX11_ofStage_81 : decode cX11_ofStage 81 = .ok (.iload_n 1, 1) := by decide +kernel
theorem dX11_ofStage_82 : decode cX11_ofStage 82 = .ok (.iconst 1, 1) := by decide +kernel
theorem dX11_ofStage_83 : decode cX11_ofStage 83 = .ok (.iadd, 1) := by decide +kernel
theorem dX11_ofStage_84 : decode cX11_ofStage 84 = .ok (.invokevirtual 71, 3) := by decide +kernel
theorem dX11_ofStage_87 : decode cX11_ofStage 87 = .ok (.invokevirtual 75, 3) := by decide +kernel
theorem dX11_ofStage_90 : decode cX11_ofStage 90 = .ok (.ireturn, 1) := by decide +kernel
theorem dX11_ofStage_91 : decode cX11_ofStage 91 = .ok (.aload_n 0, 1) := by decide +kernel
theorem dX11_ofStage_92 : decode cX11_ofStage 92 = .ok (.aload_n 3, 1) := by decide +kernel
theorem dX11_ofStage_93 : decode cX11_ofStage 93 = .ok (.iload_n 1, 1) := by decide +kernel
theorem dX11_ofStage_94 : decode cX11_ofStage 94 = .ok (.invokevirtual 184, 3) := by decide +kernel
theorem dX11_ofStage_97 : decode cX11_ofStage 97 = .ok (.ireturn, 1) := by decide +kernel
theorem dX11_ofStage_98 : decode cX11_ofStage 98 = .ok (.aload_n 3, 1) := by decide +kernel
theorem dX11_ofStage_99 : decode cX11_ofStage 99 = .ok (.aload_n 0, 1) := by decide +kernel
theorem dX11_ofStage_100 : decode cX11_ofStage 100 = .ok (.getfield 45, 3) := by decide +kernel
theorem dX11_ofStage_103 : decode cX11_ofStage 103 = .ok (.iload_n 1, 1) := by decide +kernel
theorem dX11_ofStage_104 : decode cX11_ofStage 104 = .ok (.iconst 1, 1) := by decide +kernel
theorem dX11_ofStage_105 : decode cX11_ofStage 105 = .ok (.iadd, 1) := by decide +kernel
theorem dX11_ofStage_106 : decode cX11_ofStage 106 = .ok (.invokevirtual 71, 3) := by decide +kernel
theorem dX11_ofStage_109 : decode cX11_ofStage 109 = .ok (.invokevirtual 188, 3) := by decide +kernel
theorem dX11_ofStage_112 : decode cX11_ofStage 112 = .ok (.ireturn, 1) := by decide +kernel
theorem dX11_ofStage_113 : decode cX11_ofStage 113 = .ok (.new 58, 3) := by decide +kernel
theorem dX11_ofStage_116 : decode cX11_ofStage 116 = .ok (.dup, 1) := by decide +kernel
theorem dX11_ofStage_117 : decode cX11_ofStage 117 = .ok (.ldc 192, 2) := by decide +kernel
theorem dX11_ofStage_119 : decode cX11_ofStage 119 = .ok (.invokespecial 62, 3) := by decide +kernel
theorem dX11_ofStage_122 : decode cX11_ofStage 122 = .ok (.athrow, 1) := by decide +kernel
theorem dX11_sent_0 : decode cX11_sent 0 = .ok (.aload_n 0, 1) := by decide +kernel
theorem dX11_sent_1 : decode cX11_sent 1 = .ok (.aload_n 0, 1) := by decide +kernel
theorem dX11_sent_2 : decode cX11_sent 2 = .ok (.getfield 41, 3) := by decide +kernel
theorem dX11_sent_5 : decode cX11_sent 5 = .ok (.invokevirtual 194, 3) := by decide +kernel
theorem dX11_sent_8 : decode cX11_sent 8 = .ok (.invokevirtual 75, 3) := by decide +kernel
theorem dX11_sent_11 : decode cX11_sent 11 = .ok (.ireturn, 1) := by decide +kernel
theorem dX11_bit_0 : decode cX11_bit 0 = .ok (.iload_n 1, 1) := by decide +kernel
theorem dX11_bit_1 : decode cX11_bit 1 = .ok (.ifCond .lt 18, 3) := by decide +kernel
theorem dX11_bit_4 : decode cX11_bit 4 = .ok (.iload_n 1, 1) := by decide +kernel
theorem dX11_bit_5 : decode cX11_bit 5 = .ok (.aload_n 0, 1) := by decide +kernel
theorem dX11_bit_6 : decode cX11_bit 6 = .ok (.aload_n 0, 1) := by decide +kernel
theorem dX11_bit_7 : decode cX11_bit 7 = .ok (.getfield 41, 3) := by decide +kernel
theorem dX11_bit_10 : decode cX11_bit 10 = .ok (.invokevirtual 194, 3) := by decide +kernel
theorem dX11_bit_13 : decode cX11_bit 13 = .ok (.invokevirtual 75, 3) := by decide +kernel
theorem dX11_bit_16 : decode cX11_bit 16 = .ok (.if_icmp .lt 13, 3) := by decide +kernel
theorem dX11_bit_19 : decode cX11_bit 19 = .ok (.new 164, 3) := by decide +kernel
theorem dX11_bit_22 : decode cX11_bit 22 = .ok (.dup, 1) := by decide +kernel
theorem dX11_bit_23 : decode cX11_bit 23 = .ok (.ldc 198, 2) := by decide +kernel
theorem dX11_bit_25 : decode cX11_bit 25 = .ok (.invokespecial 168, 3) := by decide +kernel
theorem dX11_bit_28 : decode cX11_bit 28 = .ok (.athrow, 1) := by decide +kernel
theorem dX11_bit_29 : decode cX11_bit 29 = .ok (.iload_n 2, 1) := by decide +kernel
theorem dX11_bit_30 : decode cX11_bit 30 = .ok (.ifCond .eq 18, 3) := by decide +kernel
theorem dX11_bit_33 : decode cX11_bit 33 = .ok (.iload_n 2, 1) := by decide +kernel
theorem dX11_bit_34 : decode cX11_bit 34 = .ok (.iconst 1, 1) := by decide +kernel
theorem dX11_bit_35 : decode cX11_bit 35 = .ok (.if_icmp .eq 13, 3) := by decide +kernel
theorem dX11_bit_38 : decode cX11_bit 38 = .ok (.new 58, 3) := by decide +kernel
theorem dX11_bit_41 : decode cX11_bit 41 = .ok (.dup, 1) := by decide +kernel
theorem dX11_bit_42 : decode cX11_bit 42 = .ok (.ldc 200, 2) := by decide +kernel
theorem dX11_bit_44 : decode cX11_bit 44 = .ok (.invokespecial 62, 3) := by decide +kernel
theorem dX11_bit_47 : decode cX11_bit 47 = .ok (.athrow, 1) := by decide +kernel
theorem dX11_bit_48 : decode cX11_bit 48 = .ok (.iload_n 2, 1) := by decide +kernel
theorem dX11_bit_49 : decode cX11_bit 49 = .ok (.ifCond .ne 18, 3) := by decide +kernel
theorem dX11_bit_52 : decode cX11_bit 52 = .ok (.aload_n 0, 1) := by decide +kernel
theorem dX11_bit_53 : decode cX11_bit 53 = .ok (.aload_n 0, 1) := by decide +kernel
theorem dX11_bit_54 : decode cX11_bit 54 = .ok (.getfield 41, 3) := by decide +kernel
theorem dX11_bit_57 : decode cX11_bit 57 = .ok (.invokevirtual 194, 3) := by decide +kernel
theorem dX11_bit_60 : decode cX11_bit 60 = .ok (.iload_n 1, 1) := by decide +kernel
theorem dX11_bit_61 : decode cX11_bit 61 = .ok (.invokevirtual 202, 3) := by decide +kernel
theorem dX11_bit_64 : decode cX11_bit 64 = .ok (.goto 15, 3) := by decide +kernel
theorem dX11_bit_67 : decode cX11_bit 67 = .ok (.aload_n 0, 1) := by decide +kernel
theorem dX11_bit_68 : decode cX11_bit 68 = .ok (.aload_n 0, 1) := by decide +kernel
theorem dX11_bit_69 : decode cX11_bit 69 = .ok (.getfield 45, 3) := by decide +kernel
theorem dX11_bit_72 : decode cX11_bit 72 = .ok (.invokevirtual 194, 3) := by decide +kernel
theorem dX11_bit_75 : decode cX11_bit 75 = .ok (.iload_n 1, 1) := by decide +kernel
theorem dX11_bit_76 : decode cX11_bit 76 = .ok (.invokevirtual 202, 3) := by decide +kernel
theorem dX11_bit_79 : decode cX11_bit 79 = .ok (.ireturn, 1) := by decide +kernel
theorem dX11_told_0 : decode cX11_told 0 = .ok (.iload_n 1, 1) := by decide +kernel
theorem dX11_told_1 : decode cX11_told 1 = .ok (.ifCond .lt 18, 3) := by decide +kernel
theorem dX11_told_4 : decode cX11_told 4 = .ok (.iload_n 1, 1) := by decide +kernel
theorem dX11_told_5 : decode cX11_told 5 = .ok (.aload_n 0, 1) := by decide +kernel
theorem dX11_told_6 : decode cX11_told 6 = .ok (.getfield 41, 3) := by decide +kernel
theorem dX11_told_9 : decode cX11_told 9 = .ok (.iconst 0, 1) := by decide +kernel
theorem dX11_told_10 : decode cX11_told 10 = .ok (.invokevirtual 71, 3) := by decide +kernel
theorem dX11_told_13 : decode cX11_told 13 = .ok (.invokevirtual 75, 3) := by decide +kernel
theorem dX11_told_16 : decode cX11_told 16 = .ok (.if_icmp .lt 13, 3) := by decide +kernel
theorem dX11_told_19 : decode cX11_told 19 = .ok (.new 164, 3) := by decide +kernel
theorem dX11_told_22 : decode cX11_told 22 = .ok (.dup, 1) := by decide +kernel
theorem dX11_told_23 : decode cX11_told 23 = .ok (.ldc 205, 2) := by decide +kernel
theorem dX11_told_25 : decode cX11_told 25 = .ok (.invokespecial 168, 3) := by decide +kernel
theorem dX11_told_28 : decode cX11_told 28 = .ok (.athrow, 1) := by decide +kernel
theorem dX11_told_29 : decode cX11_told 29 = .ok (.iload_n 2, 1) := by decide +kernel
theorem dX11_told_30 : decode cX11_told 30 = .ok (.ifCond .eq 18, 3) := by decide +kernel
theorem dX11_told_33 : decode cX11_told 33 = .ok (.iload_n 2, 1) := by decide +kernel
theorem dX11_told_34 : decode cX11_told 34 = .ok (.iconst 1, 1) := by decide +kernel
theorem dX11_told_35 : decode cX11_told 35 = .ok (.if_icmp .eq 13, 3) := by decide +kernel
theorem dX11_told_38 : decode cX11_told 38 = .ok (.new 58, 3) := by decide +kernel
theorem dX11_told_41 : decode cX11_told 41 = .ok (.dup, 1) := by decide +kernel
theorem dX11_told_42 : decode cX11_told 42 = .ok (.ldc 200, 2) := by decide +kernel
theorem dX11_told_44 : decode cX11_told 44 = .ok (.invokespecial 62, 3) := by decide +kernel
theorem dX11_told_47 : decode cX11_told 47 = .ok (.athrow, 1) := by decide +kernel
theorem dX11_told_48 : decode cX11_told 48 = .ok (.iload_n 2, 1) := by decide +kernel
theorem dX11_told_49 : decode cX11_told 49 = .ok (.ifCond .ne 18, 3) := by decide +kernel
theorem dX11_told_52 : decode cX11_told 52 = .ok (.aload_n 0, 1) := by decide +kernel
theorem dX11_told_53 : decode cX11_told 53 = .ok (.getfield 41, 3) := by decide +kernel
theorem dX11_told_56 : decode cX11_told 56 = .ok (.iconst 0, 1) := by decide +kernel
theorem dX11_told_57 : decode cX11_told 57 = .ok (.invokevirtual 71, 3) := by decide +kernel
theorem dX11_told_60 : decode cX11_told 60 = .ok (.iload_n 1, 1) := by decide +kernel
theorem dX11_told_61 : decode cX11_told 61 = .ok (.invokevirtual 202, 3) := by decide +kernel
theorem dX11_told_64 : decode cX11_told 64 = .ok (.goto 15, 3) := by decide +kernel
theorem dX11_told_67 : decode cX11_told 67 = .ok (.aload_n 0, 1) := by decide +kernel
theorem dX11_told_68 : decode cX11_told 68 = .ok (.getfield 45, 3) := by decide +kernel
theorem dX11_told_71 : decode cX11_told 71 = .ok (.iconst 0, 1) := by decide +kernel
theorem dX11_told_72 : decode cX11_told 72 = .ok (.invokevirtual 71, 3) := by decide +kernel
theorem dX11_told_75 : decode cX11_told 75 = .ok (.iload_n 1, 1) := by decide +kernel
theorem dX11_told_76 : decode cX11_told 76 = .ok (.invokevirtual 202, 3) := by decide +kernel
theorem dX11_told_79 : decode cX11_told 79 = .ok (.ireturn, 1) := by decide +kernel
theorem dX11_hurt_0 : decode cX11_hurt 0 = .ok (.aload_n 0, 1) := by decide +kernel
theorem dX11_hurt_1 : decode cX11_hurt 1 = .ok (.aload_n 0, 1) := by decide +kernel
theorem dX11_hurt_2 : decode cX11_hurt 2 = .ok (.getfield 41, 3) := by decide +kernel
theorem dX11_hurt_5 : decode cX11_hurt 5 = .ok (.invokevirtual 194, 3) := by decide +kernel
theorem dX11_hurt_8 : decode cX11_hurt 8 = .ok (.aload_n 0, 1) := by decide +kernel
theorem dX11_hurt_9 : decode cX11_hurt 9 = .ok (.aload_n 0, 1) := by decide +kernel
theorem dX11_hurt_10 : decode cX11_hurt 10 = .ok (.getfield 45, 3) := by decide +kernel
theorem dX11_hurt_13 : decode cX11_hurt 13 = .ok (.invokevirtual 194, 3) := by decide +kernel
theorem dX11_hurt_16 : decode cX11_hurt 16 = .ok (.invokevirtual 207, 3) := by decide +kernel
theorem dX11_hurt_19 : decode cX11_hurt 19 = .ok (.ireturn, 1) := by decide +kernel
theorem dX11_errors_0 : decode cX11_errors 0 = .ok (.aload_n 0, 1) := by decide +kernel
theorem dX11_errors_1 : decode cX11_errors 1 = .ok (.aload_n 0, 1) := by decide +kernel
theorem dX11_errors_2 : decode cX11_errors 2 = .ok (.getfield 45, 3) := by decide +kernel
theorem dX11_errors_5 : decode cX11_errors 5 = .ok (.invokevirtual 210, 3) := by decide +kernel
theorem dX11_errors_8 : decode cX11_errors 8 = .ok (.ireturn, 1) := by decide +kernel
theorem dX11_distance_0 : decode cX11_distance 0 = .ok (.aload_n 0, 1) := by decide +kernel
theorem dX11_distance_1 : decode cX11_distance 1 = .ok (.getfield 10, 3) := by decide +kernel
theorem dX11_distance_4 : decode cX11_distance 4 = .ok (.iload_n 1, 1) := by decide +kernel
theorem dX11_distance_5 : decode cX11_distance 5 = .ok (.invokevirtual 175, 3) := by decide +kernel
theorem dX11_distance_8 : decode cX11_distance 8 = .ok (.astore_n 2, 1) := by decide +kernel
theorem dX11_distance_9 : decode cX11_distance 9 = .ok (.aload_n 2, 1) := by decide +kernel
theorem dX11_distance_10 : decode cX11_distance 10 = .ok (.ifnonnull 13, 3) := by decide +kernel
theorem dX11_distance_13 : decode cX11_distance 13 = .ok (.new 164, 3) := by decide +kernel
theorem dX11_distance_16 : decode cX11_distance 16 = .ok (.dup, 1) := by decide +kernel
theorem dX11_distance_17 : decode cX11_distance 17 = .ok (.ldc 179, 2) := by decide +kernel
theorem dX11_distance_19 : decode cX11_distance 19 = .ok (.invokespecial 168, 3) := by decide +kernel
theorem dX11_distance_22 : decode cX11_distance 22 = .ok (.athrow, 1) := by decide +kernel
theorem dX11_distance_23 : decode cX11_distance 23 = .ok (.aload_n 2, 1) := by decide +kernel
theorem dX11_distance_24 : decode cX11_distance 24 = .ok (.invokevirtual 214, 3) := by decide +kernel
theorem dX11_distance_27 : decode cX11_distance 27 = .ok (.ireturn, 1) := by decide +kernel
theorem dX11_words_0 : decode cX11_words 0 = .ok (.aload_n 0, 1) := by decide +kernel
theorem dX11_words_1 : decode cX11_words 1 = .ok (.getfield 10, 3) := by decide +kernel
theorem dX11_words_4 : decode cX11_words 4 = .ok (.iload_n 1, 1) := by decide +kernel
theorem dX11_words_5 : decode cX11_words 5 = .ok (.invokevirtual 175, 3) := by decide +kernel
theorem dX11_words_8 : decode cX11_words 8 = .ok (.astore_n 3, 1) := by decide +kernel
theorem dX11_words_9 : decode cX11_words 9 = .ok (.aload_n 3, 1) := by decide +kernel
theorem dX11_words_10 : decode cX11_words 10 = .ok (.ifnonnull 13, 3) := by decide +kernel
theorem dX11_words_13 : decode cX11_words 13 = .ok (.new 164, 3) := by decide +kernel
theorem dX11_words_16 : decode cX11_words 16 = .ok (.dup, 1) := by decide +kernel
theorem dX11_words_17 : decode cX11_words 17 = .ok (.ldc 179, 2) := by decide +kernel
theorem dX11_words_19 : decode cX11_words 19 = .ok (.invokespecial 168, 3) := by decide +kernel
theorem dX11_words_22 : decode cX11_words 22 = .ok (.athrow, 1) := by decide +kernel
theorem dX11_words_23 : decode cX11_words 23 = .ok (.aload_n 3, 1) := by decide +kernel
theorem dX11_words_24 : decode cX11_words 24 = .ok (.invokevirtual 181, 3) := by decide +kernel
theorem dX11_words_27 : decode cX11_words 27 = .ok (.iconst 1, 1) := by decide +kernel
theorem dX11_words_28 : decode cX11_words 28 = .ok (.if_icmp .eq 13, 3) := by decide +kernel
theorem dX11_words_31 : decode cX11_words 31 = .ok (.new 58, 3) := by decide +kernel
theorem dX11_words_34 : decode cX11_words 34 = .ok (.dup, 1) := by decide +kernel
theorem dX11_words_35 : decode cX11_words 35 = .ok (.ldc 217, 2) := by decide +kernel
theorem dX11_words_37 : decode cX11_words 37 = .ok (.invokespecial 62, 3) := by decide +kernel
theorem dX11_words_40 : decode cX11_words 40 = .ok (.athrow, 1) := by decide +kernel
theorem dX11_words_41 : decode cX11_words 41 = .ok (.iload_n 2, 1) := by decide +kernel
theorem dX11_words_42 : decode cX11_words 42 = .ok (.ifCond .lt 9, 3) := by decide +kernel
theorem dX11_words_45 : decode cX11_words 45 = .ok (.iload_n 2, 1) := by decide +kernel
theorem dX11_words_46 : decode cX11_words 46 = .ok (.bipush 10, 2) := by decide +kernel
theorem dX11_words_48 : decode cX11_words 48 = .ok (.if_icmp .le 13, 3) := by decide +kernel
theorem dX11_words_51 : decode cX11_words 51 = .ok (.new 58, 3) := by decide +kernel
theorem dX11_words_54 : decode cX11_words 54 = .ok (.dup, 1) := by decide +kernel
theorem dX11_words_55 : decode cX11_words 55 = .ok (.ldc 219, 2) := by decide +kernel
theorem dX11_words_57 : decode cX11_words 57 = .ok (.invokespecial 62, 3) := by decide +kernel
theorem dX11_words_60 : decode cX11_words 60 = .ok (.athrow, 1) := by decide +kernel
theorem dX11_words_61 : decode cX11_words 61 = .ok (.aload_n 3, 1) := by decide +kernel
theorem dX11_words_62 : decode cX11_words 62 = .ok (.iload_n 2, 1) := by decide +kernel
theorem dX11_words_63 : decode cX11_words 63 = .ok (.invokevirtual 221, 3) := by decide +kernel
theorem dX11_words_66 : decode cX11_words 66 = .ok (.ireturn, 1) := by decide +kernel
theorem dX11_errorsWith_0 : decode cX11_errorsWith 0 = .ok (.iload_n 1, 1) := by decide +kernel
theorem dX11_errorsWith_1 : decode cX11_errorsWith 1 = .ok (.ifCond .lt 18, 3) := by decide +kernel
theorem dX11_errorsWith_4 : decode cX11_errorsWith 4 = .ok (.iload_n 1, 1) := by decide +kernel
theorem dX11_errorsWith_5 : decode cX11_errorsWith 5 = .ok (.aload_n 0, 1) := by decide +kernel
theorem dX11_errorsWith_6 : decode cX11_errorsWith 6 = .ok (.aload_n 0, 1) := by decide +kernel
theorem dX11_errorsWith_7 : decode cX11_errorsWith 7 = .ok (.getfield 41, 3) := by decide +kernel
theorem dX11_errorsWith_10 : decode cX11_errorsWith 10 = .ok (.invokevirtual 194, 3) := by decide +kernel
theorem dX11_errorsWith_13 : decode cX11_errorsWith 13 = .ok (.invokevirtual 75, 3) := by decide +kernel
theorem dX11_errorsWith_16 : decode cX11_errorsWith 16 = .ok (.if_icmp .lt 13, 3) := by decide +kernel
theorem dX11_errorsWith_19 : decode cX11_errorsWith 19 = .ok (.new 164, 3) := by decide +kernel
theorem dX11_errorsWith_22 : decode cX11_errorsWith 22 = .ok (.dup, 1) := by decide +kernel
theorem dX11_errorsWith_23 : decode cX11_errorsWith 23 = .ok (.ldc 198, 2) := by decide +kernel
theorem dX11_errorsWith_25 : decode cX11_errorsWith 25 = .ok (.invokespecial 168, 3) := by decide +kernel
theorem dX11_errorsWith_28 : decode cX11_errorsWith 28 = .ok (.athrow, 1) := by decide +kernel
theorem dX11_errorsWith_29 : decode cX11_errorsWith 29 = .ok (.aload_n 0, 1) := by decide +kernel
theorem dX11_errorsWith_30 : decode cX11_errorsWith 30 = .ok (.iload_n 1, 1) := by decide +kernel
theorem dX11_errorsWith_31 : decode cX11_errorsWith 31 = .ok (.invokevirtual 224, 3) := by decide +kernel
theorem dX11_errorsWith_34 : decode cX11_errorsWith 34 = .ok (.ireturn, 1) := by decide +kernel
theorem dX11_weak_0 : decode cX11_weak 0 = .ok (.aload_n 0, 1) := by decide +kernel
theorem dX11_weak_1 : decode cX11_weak 1 = .ok (.aload_n 0, 1) := by decide +kernel
theorem dX11_weak_2 : decode cX11_weak 2 = .ok (.getfield 45, 3) := by decide +kernel
theorem dX11_weak_5 : decode cX11_weak 5 = .ok (.invokevirtual 210, 3) := by decide +kernel
theorem dX11_weak_8 : decode cX11_weak 8 = .ok (.istore_n 1, 1) := by decide +kernel
theorem dX11_weak_9 : decode cX11_weak 9 = .ok (.aload_n 0, 1) := by decide +kernel
theorem dX11_weak_10 : decode cX11_weak 10 = .ok (.aload_n 0, 1) := by decide +kernel
theorem dX11_weak_11 : decode cX11_weak 11 = .ok (.getfield 41, 3) := by decide +kernel
theorem dX11_weak_14 : decode cX11_weak 14 = .ok (.invokevirtual 194, 3) := by decide +kernel
theorem dX11_weak_17 : decode cX11_weak 17 = .ok (.invokevirtual 75, 3) := by decide +kernel
theorem dX11_weak_20 : decode cX11_weak 20 = .ok (.istore_n 2, 1) := by decide +kernel
theorem dX11_weak_21 : decode cX11_weak 21 = .ok (.iconst 0, 1) := by decide +kernel
theorem dX11_weak_22 : decode cX11_weak 22 = .ok (.istore_n 3, 1) := by decide +kernel
theorem dX11_weak_23 : decode cX11_weak 23 = .ok (.iconst 0, 1) := by decide +kernel
theorem dX11_weak_24 : decode cX11_weak 24 = .ok (.istore 4, 2) := by decide +kernel
theorem dX11_weak_26 : decode cX11_weak 26 = .ok (.iload 4, 2) := by decide +kernel
theorem dX11_weak_28 : decode cX11_weak 28 = .ok (.iload_n 2, 1) := by decide +kernel
theorem dX11_weak_29 : decode cX11_weak 29 = .ok (.if_icmp .ge 22, 3) := by decide +kernel
theorem dX11_weak_32 : decode cX11_weak 32 = .ok (.aload_n 0, 1) := by decide +kernel
theorem dX11_weak_33 : decode cX11_weak 33 = .ok (.iload 4, 2) := by decide +kernel
theorem dX11_weak_35 : decode cX11_weak 35 = .ok (.invokevirtual 224, 3) := by decide +kernel
theorem dX11_weak_38 : decode cX11_weak 38 = .ok (.iload_n 1, 1) := by decide +kernel
theorem dX11_weak_39 : decode cX11_weak 39 = .ok (.if_icmp .le 6, 3) := by decide +kernel
theorem dX11_weak_42 : decode cX11_weak 42 = .ok (.iinc 3 1, 3) := by decide +kernel
theorem dX11_weak_45 : decode cX11_weak 45 = .ok (.iinc 4 1, 3) := by decide +kernel
theorem dX11_weak_48 : decode cX11_weak 48 = .ok (.goto (-22), 3) := by decide +kernel
theorem dX11_weak_51 : decode cX11_weak 51 = .ok (.iload_n 3, 1) := by decide +kernel
theorem dX11_weak_52 : decode cX11_weak 52 = .ok (.ireturn, 1) := by decide +kernel
theorem dX11_breaks_0 : decode cX11_breaks 0 = .ok (.iload_n 1, 1) := by decide +kernel
theorem dX11_breaks_1 : decode cX11_breaks 1 = .ok (.ifCond .lt 10, 3) := by decide +kernel
theorem dX11_breaks_4 : decode cX11_breaks 4 = .ok (.iload_n 1, 1) := by decide +kernel
theorem dX11_breaks_5 : decode cX11_breaks 5 = .ok (.sipush 320, 3) := by decide +kernel
theorem dX11_breaks_8 : decode cX11_breaks 8 = .ok (.if_icmp .lt 13, 3) := by decide +kernel
theorem dX11_breaks_11 : decode cX11_breaks 11 = .ok (.new 58, 3) := by decide +kernel
theorem dX11_breaks_14 : decode cX11_breaks 14 = .ok (.dup, 1) := by decide +kernel
theorem dX11_breaks_15 : decode cX11_breaks 15 = .ok (.ldc 227, 2) := by decide +kernel
theorem dX11_breaks_17 : decode cX11_breaks 17 = .ok (.invokespecial 62, 3) := by decide +kernel
theorem dX11_breaks_20 : decode cX11_breaks 20 = .ok (.athrow, 1) := by decide +kernel
theorem dX11_breaks_21 : decode cX11_breaks 21 = .ok (.aload_n 0, 1) := by decide +kernel
theorem dX11_breaks_22 : decode cX11_breaks 22 = .ok (.aload_n 0, 1) := by decide +kernel
theorem dX11_breaks_23 : decode cX11_breaks 23 = .ok (.getfield 48, 3) := by decide +kernel
theorem dX11_breaks_26 : decode cX11_breaks 26 = .ok (.invokevirtual 194, 3) := by decide +kernel
theorem dX11_breaks_29 : decode cX11_breaks 29 = .ok (.astore_n 2, 1) := by decide +kernel
theorem dX11_breaks_30 : decode cX11_breaks 30 = .ok (.aload_n 2, 1) := by decide +kernel
theorem dX11_breaks_31 : decode cX11_breaks 31 = .ok (.aload_n 0, 1) := by decide +kernel
theorem dX11_breaks_32 : decode cX11_breaks 32 = .ok (.aload_n 0, 1) := by decide +kernel
theorem dX11_breaks_33 : decode cX11_breaks 33 = .ok (.getfield 41, 3) := by decide +kernel
theorem dX11_breaks_36 : decode cX11_breaks 36 = .ok (.invokevirtual 194, 3) := by decide +kernel
theorem dX11_breaks_39 : decode cX11_breaks 39 = .ok (.invokevirtual 229, 3) := by decide +kernel
theorem dX11_breaks_42 : decode cX11_breaks 42 = .ok (.aload_n 2, 1) := by decide +kernel
theorem dX11_breaks_43 : decode cX11_breaks 43 = .ok (.invokevirtual 75, 3) := by decide +kernel
theorem dX11_breaks_46 : decode cX11_breaks 46 = .ok (.istore_n 3, 1) := by decide +kernel
theorem dX11_breaks_47 : decode cX11_breaks 47 = .ok (.iload_n 1, 1) := by decide +kernel
theorem dX11_breaks_48 : decode cX11_breaks 48 = .ok (.istore 4, 2) := by decide +kernel
theorem dX11_breaks_50 : decode cX11_breaks 50 = .ok (.iload 4, 2) := by decide +kernel
theorem dX11_breaks_52 : decode cX11_breaks 52 = .ok (.iload_n 3, 1) := by decide +kernel
theorem dX11_breaks_53 : decode cX11_breaks 53 = .ok (.if_icmp .ge 48, 3) := by decide +kernel
theorem dX11_breaks_56 : decode cX11_breaks 56 = .ok (.aload_n 2, 1) := by decide +kernel
theorem dX11_breaks_57 : decode cX11_breaks 57 = .ok (.iload 4, 2) := by decide +kernel
theorem dX11_breaks_59 : decode cX11_breaks 59 = .ok (.invokevirtual 169, 3) := by decide +kernel
theorem dX11_breaks_62 : decode cX11_breaks 62 = .ok (.aload_n 0, 1) := by decide +kernel
theorem dX11_breaks_63 : decode cX11_breaks 63 = .ok (.getfield 10, 3) := by decide +kernel
theorem dX11_breaks_66 : decode cX11_breaks 66 = .ok (.aload_n 0, 1) := by decide +kernel
theorem dX11_breaks_67 : decode cX11_breaks 67 = .ok (.getfield 48, 3) := by decide +kernel
theorem dX11_breaks_70 : decode cX11_breaks 70 = .ok (.aload_n 0, 1) := by decide +kernel
theorem dX11_breaks_71 : decode cX11_breaks 71 = .ok (.getfield 41, 3) := by decide +kernel
theorem dX11_breaks_74 : decode cX11_breaks 74 = .ok (.invokevirtual 233, 3) := by decide +kernel
theorem dX11_breaks_77 : decode cX11_breaks 77 = .ok (.aload_n 0, 1) := by decide +kernel
theorem dX11_breaks_78 : decode cX11_breaks 78 = .ok (.aload_n 0, 1) := by decide +kernel
theorem dX11_breaks_79 : decode cX11_breaks 79 = .ok (.getfield 48, 3) := by decide +kernel
theorem dX11_breaks_82 : decode cX11_breaks 82 = .ok (.invokevirtual 210, 3) := by decide +kernel
theorem dX11_breaks_85 : decode cX11_breaks 85 = .ok (.ifCond .le 10, 3) := by decide +kernel
theorem dX11_breaks_88 : decode cX11_breaks 88 = .ok (.iload 4, 2) := by decide +kernel
theorem dX11_breaks_90 : decode cX11_breaks 90 = .ok (.iload_n 1, 1) := by decide +kernel
theorem dX11_breaks_91 : decode cX11_breaks 91 = .ok (.isub, 1) := by decide +kernel
theorem dX11_breaks_92 : decode cX11_breaks 92 = .ok (.iconst 1, 1) := by decide +kernel
theorem dX11_breaks_93 : decode cX11_breaks 93 = .ok (.iadd, 1) := by decide +kernel
theorem dX11_breaks_94 : decode cX11_breaks 94 = .ok (.ireturn, 1) := by decide +kernel
theorem dX11_breaks_95 : decode cX11_breaks 95 = .ok (.iinc 4 1, 3) := by decide +kernel
theorem dX11_breaks_98 : decode cX11_breaks 98 = .ok (.goto (-48), 3) := by decide +kernel
theorem dX11_breaks_101 : decode cX11_breaks 101 = .ok (.iconst 0, 1) := by decide +kernel
theorem dX11_breaks_102 : decode cX11_breaks 102 = .ok (.ireturn, 1) := by decide +kernel
theorem dX11_meanErrors_0 : decode cX11_meanErrors 0 = .ok (.iload_n 1, 1) := by decide +kernel
theorem dX11_meanErrors_1 : decode cX11_meanErrors 1 = .ok (.ifCond .lt 10, 3) := by decide +kernel
theorem dX11_meanErrors_4 : decode cX11_meanErrors 4 = .ok (.iload_n 1, 1) := by decide +kernel
theorem dX11_meanErrors_5 : decode cX11_meanErrors 5 = .ok (.sipush 1000, 3) := by decide +kernel
theorem dX11_meanErrors_8 : decode cX11_meanErrors 8 = .ok (.if_icmp .le 13, 3) := by decide +kernel
theorem dX11_meanErrors_11 : decode cX11_meanErrors 11 = .ok (.new 58, 3) := by decide +kernel
theorem dX11_meanErrors_14 : decode cX11_meanErrors 14 = .ok (.dup, 1) := by decide +kernel
theorem dX11_meanErrors_15 : decode cX11_meanErrors 15 = .ok (.ldc 237, 2) := by decide +kernel
theorem dX11_meanErrors_17 : decode cX11_meanErrors 17 = .ok (.invokespecial 62, 3) := by decide +kernel
theorem dX11_meanErrors_20 : decode cX11_meanErrors 20 = .ok (.athrow, 1) := by decide +kernel
theorem dX11_meanErrors_21 : decode cX11_meanErrors 21 = .ok (.iload_n 2, 1) := by decide +kernel
theorem dX11_meanErrors_22 : decode cX11_meanErrors 22 = .ok (.iconst 1, 1) := by decide +kernel
theorem dX11_meanErrors_23 : decode cX11_meanErrors 23 = .ok (.if_icmp .lt 9, 3) := by decide +kernel
theorem dX11_meanErrors_26 : decode cX11_meanErrors 26 = .ok (.iload_n 2, 1) := by decide +kernel
theorem dX11_meanErrors_27 : decode cX11_meanErrors 27 = .ok (.bipush 20, 2) := by decide +kernel
theorem dX11_meanErrors_29 : decode cX11_meanErrors 29 = .ok (.if_icmp .le 13, 3) := by decide +kernel
theorem dX11_meanErrors_32 : decode cX11_meanErrors 32 = .ok (.new 58, 3) := by decide +kernel
theorem dX11_meanErrors_35 : decode cX11_meanErrors 35 = .ok (.dup, 1) := by decide +kernel
theorem dX11_meanErrors_36 : decode cX11_meanErrors 36 = .ok (.ldc 239, 2) := by decide +kernel
theorem dX11_meanErrors_38 : decode cX11_meanErrors 38 = .ok (.invokespecial 62, 3) := by decide +kernel
theorem dX11_meanErrors_41 : decode cX11_meanErrors 41 = .ok (.athrow, 1) := by decide +kernel
theorem dX11_meanErrors_42 : decode cX11_meanErrors 42 = .ok (.iconst 0, 1) := by decide +kernel
theorem dX11_meanErrors_43 : decode cX11_meanErrors 43 = .ok (.istore_n 3, 1) := by decide +kernel
theorem dX11_meanErrors_44 : decode cX11_meanErrors 44 = .ok (.iconst 1, 1) := by decide +kernel
theorem dX11_meanErrors_45 : decode cX11_meanErrors 45 = .ok (.istore 4, 2) := by decide +kernel
theorem dX11_meanErrors_47 : decode cX11_meanErrors 47 = .ok (.iload 4, 2) := by decide +kernel
theorem dX11_meanErrors_49 : decode cX11_meanErrors 49 = .ok (.iload_n 2, 1) := by decide +kernel
theorem dX11_meanErrors_50 : decode cX11_meanErrors 50 = .ok (.if_icmp .gt 59, 3) := by decide +kernel
theorem dX11_meanErrors_53 : decode cX11_meanErrors 53 = .ok (.aload_n 0, 1) := by decide +kernel
theorem dX11_meanErrors_54 : decode cX11_meanErrors 54 = .ok (.getfield 23, 3) := by decide +kernel
theorem dX11_meanErrors_57 : decode cX11_meanErrors 57 = .ok (.iconst 1, 1) := by decide +kernel
theorem dX11_meanErrors_58 : decode cX11_meanErrors 58 = .ok (.iload_n 1, 1) := by decide +kernel
theorem dX11_meanErrors_59 : decode cX11_meanErrors 59 = .ok (.iload 4, 2) := by decide +kernel
theorem dX11_meanErrors_61 : decode cX11_meanErrors 61 = .ok (.iconst 0, 1) := by decide +kernel
theorem dX11_meanErrors_62 : decode cX11_meanErrors 62 = .ok (.invokevirtual 160, 3) := by decide +kernel
theorem dX11_meanErrors_65 : decode cX11_meanErrors 65 = .ok (.aload_n 0, 1) := by decide +kernel
theorem dX11_meanErrors_66 : decode cX11_meanErrors 66 = .ok (.aload_n 0, 1) := by decide +kernel
theorem dX11_meanErrors_67 : decode cX11_meanErrors 67 = .ok (.getfield 23, 3) := by decide +kernel
theorem dX11_meanErrors_70 : decode cX11_meanErrors 70 = .ok (.aload_n 0, 1) := by decide +kernel
theorem dX11_meanErrors_71 : decode cX11_meanErrors 71 = .ok (.getfield 48, 3) := by decide +kernel
theorem dX11_meanErrors_74 : decode cX11_meanErrors 74 = .ok (.invokevirtual 241, 3) := by decide +kernel
theorem dX11_meanErrors_77 : decode cX11_meanErrors 77 = .ok (.aload_n 0, 1) := by decide +kernel
theorem dX11_meanErrors_78 : decode cX11_meanErrors 78 = .ok (.getfield 10, 3) := by decide +kernel
theorem dX11_meanErrors_81 : decode cX11_meanErrors 81 = .ok (.aload_n 0, 1) := by decide +kernel
theorem dX11_meanErrors_82 : decode cX11_meanErrors 82 = .ok (.getfield 48, 3) := by decide +kernel
theorem dX11_meanErrors_85 : decode cX11_meanErrors 85 = .ok (.aload_n 0, 1) := by decide +kernel
theorem dX11_meanErrors_86 : decode cX11_meanErrors 86 = .ok (.getfield 41, 3) := by decide +kernel
theorem dX11_meanErrors_89 : decode cX11_meanErrors 89 = .ok (.invokevirtual 233, 3) := by decide +kernel
theorem dX11_meanErrors_92 : decode cX11_meanErrors 92 = .ok (.iload_n 3, 1) := by decide +kernel
theorem dX11_meanErrors_93 : decode cX11_meanErrors 93 = .ok (.aload_n 0, 1) := by decide +kernel
theorem dX11_meanErrors_94 : decode cX11_meanErrors 94 = .ok (.aload_n 0, 1) := by decide +kernel
theorem dX11_meanErrors_95 : decode cX11_meanErrors 95 = .ok (.getfield 48, 3) := by decide +kernel
theorem dX11_meanErrors_98 : decode cX11_meanErrors 98 = .ok (.invokevirtual 210, 3) := by decide +kernel
theorem dX11_meanErrors_101 : decode cX11_meanErrors 101 = .ok (.iadd, 1) := by decide +kernel
theorem dX11_meanErrors_102 : decode cX11_meanErrors 102 = .ok (.istore_n 3, 1) := by decide +kernel
theorem dX11_meanErrors_103 : decode cX11_meanErrors 103 = .ok (.iinc 4 1, 3) := by decide +kernel
theorem dX11_meanErrors_106 : decode cX11_meanErrors 106 = .ok (.goto (-59), 3) := by decide +kernel
theorem dX11_meanErrors_109 : decode cX11_meanErrors 109 = .ok (.iload_n 3, 1) := by decide +kernel
theorem dX11_meanErrors_110 : decode cX11_meanErrors 110 = .ok (.i2d, 1) := by decide +kernel
theorem dX11_meanErrors_111 : decode cX11_meanErrors 111 = .ok (.iload_n 2, 1) := by decide +kernel
theorem dX11_meanErrors_112 : decode cX11_meanErrors 112 = .ok (.i2d, 1) := by decide +kernel
theorem dX11_meanErrors_113 : decode cX11_meanErrors 113 = .ok (.ddiv, 1) := by decide +kernel
theorem dX11_meanErrors_114 : decode cX11_meanErrors 114 = .ok (.dreturn, 1) := by decide +kernel
theorem dX11_digest_0 : decode cX11_digest 0 = .ok (.ldc2_w 245, 3) := by decide +kernel
theorem dX11_digest_3 : decode cX11_digest 3 = .ok (.lstore_n 1, 1) := by decide +kernel
theorem dX11_digest_4 : decode cX11_digest 4 = .ok (.lload_n 1, 1) := by decide +kernel
theorem dX11_digest_5 : decode cX11_digest 5 = .ok (.ldc2_w 247, 3) := by decide +kernel
theorem dX11_digest_8 : decode cX11_digest 8 = .ok (.lmul, 1) := by decide +kernel
theorem dX11_digest_9 : decode cX11_digest 9 = .ok (.aload_n 0, 1) := by decide +kernel
theorem dX11_digest_10 : decode cX11_digest 10 = .ok (.invokevirtual 249, 3) := by decide +kernel
theorem dX11_digest_13 : decode cX11_digest 13 = .ok (.i2l, 1) := by decide +kernel
theorem dX11_digest_14 : decode cX11_digest 14 = .ok (.ladd, 1) := by decide +kernel
theorem dX11_digest_15 : decode cX11_digest 15 = .ok (.lstore_n 1, 1) := by decide +kernel
theorem dX11_digest_16 : decode cX11_digest 16 = .ok (.lload_n 1, 1) := by decide +kernel
theorem dX11_digest_17 : decode cX11_digest 17 = .ok (.ldc2_w 247, 3) := by decide +kernel
theorem dX11_digest_20 : decode cX11_digest 20 = .ok (.lmul, 1) := by decide +kernel
theorem dX11_digest_21 : decode cX11_digest 21 = .ok (.aload_n 0, 1) := by decide +kernel
theorem dX11_digest_22 : decode cX11_digest 22 = .ok (.invokevirtual 252, 3) := by decide +kernel
theorem dX11_digest_25 : decode cX11_digest 25 = .ok (.i2l, 1) := by decide +kernel
theorem dX11_digest_26 : decode cX11_digest 26 = .ok (.ladd, 1) := by decide +kernel
theorem dX11_digest_27 : decode cX11_digest 27 = .ok (.lstore_n 1, 1) := by decide +kernel
theorem dX11_digest_28 : decode cX11_digest 28 = .ok (.lload_n 1, 1) := by decide +kernel
theorem dX11_digest_29 : decode cX11_digest 29 = .ok (.ldc2_w 247, 3) := by decide +kernel
theorem dX11_digest_32 : decode cX11_digest 32 = .ok (.lmul, 1) := by decide +kernel
theorem dX11_digest_33 : decode cX11_digest 33 = .ok (.aload_n 0, 1) := by decide +kernel
theorem dX11_digest_34 : decode cX11_digest 34 = .ok (.invokevirtual 255, 3) := by decide +kernel
theorem dX11_digest_37 : decode cX11_digest 37 = .ok (.i2l, 1) := by decide +kernel
theorem dX11_digest_38 : decode cX11_digest 38 = .ok (.ladd, 1) := by decide +kernel
theorem dX11_digest_39 : decode cX11_digest 39 = .ok (.lstore_n 1, 1) := by decide +kernel
theorem dX11_digest_40 : decode cX11_digest 40 = .ok (.lload_n 1, 1) := by decide +kernel
theorem dX11_digest_41 : decode cX11_digest 41 = .ok (.ldc2_w 247, 3) := by decide +kernel
theorem dX11_digest_44 : decode cX11_digest 44 = .ok (.lmul, 1) := by decide +kernel
theorem dX11_digest_45 : decode cX11_digest 45 = .ok (.aload_n 0, 1) := by decide +kernel
theorem dX11_digest_46 : decode cX11_digest 46 = .ok (.invokevirtual 258, 3) := by decide +kernel
theorem dX11_digest_49 : decode cX11_digest 49 = .ok (.i2l, 1) := by decide +kernel
theorem dX11_digest_50 : decode cX11_digest 50 = .ok (.ladd, 1) := by decide +kernel
theorem dX11_digest_51 : decode cX11_digest 51 = .ok (.lstore_n 1, 1) := by decide +kernel
theorem dX11_digest_52 : decode cX11_digest 52 = .ok (.lload_n 1, 1) := by decide +kernel
theorem dX11_digest_53 : decode cX11_digest 53 = .ok (.ldc2_w 247, 3) := by decide +kernel
theorem dX11_digest_56 : decode cX11_digest 56 = .ok (.lmul, 1) := by decide +kernel
theorem dX11_digest_57 : decode cX11_digest 57 = .ok (.aload_n 0, 1) := by decide +kernel
theorem dX11_digest_58 : decode cX11_digest 58 = .ok (.invokevirtual 261, 3) := by decide +kernel
theorem dX11_digest_61 : decode cX11_digest 61 = .ok (.i2l, 1) := by decide +kernel
theorem dX11_digest_62 : decode cX11_digest 62 = .ok (.ladd, 1) := by decide +kernel
theorem dX11_digest_63 : decode cX11_digest 63 = .ok (.lstore_n 1, 1) := by decide +kernel
theorem dX11_digest_64 : decode cX11_digest 64 = .ok (.aload_n 0, 1) := by decide +kernel
theorem dX11_digest_65 : decode cX11_digest 65 = .ok (.lload_n 1, 1) := by decide +kernel
theorem dX11_digest_66 : decode cX11_digest 66 = .ok (.invokevirtual 264, 3) := by decide +kernel
theorem dX11_digest_69 : decode cX11_digest 69 = .ok (.lstore_n 1, 1) := by decide +kernel
theorem dX11_digest_70 : decode cX11_digest 70 = .ok (.aload_n 0, 1) := by decide +kernel
theorem dX11_digest_71 : decode cX11_digest 71 = .ok (.lload_n 1, 1) := by decide +kernel
theorem dX11_digest_72 : decode cX11_digest 72 = .ok (.aload_n 0, 1) := by decide +kernel
theorem dX11_digest_73 : decode cX11_digest 73 = .ok (.getfield 41, 3) := by decide +kernel
theorem dX11_digest_76 : decode cX11_digest 76 = .ok (.iconst 0, 1) := by decide +kernel
theorem dX11_digest_77 : decode cX11_digest 77 = .ok (.invokevirtual 71, 3) := by decide +kernel
theorem dX11_digest_80 : decode cX11_digest 80 = .ok (.aload_n 0, 1) := by decide +kernel
theorem dX11_digest_81 : decode cX11_digest 81 = .ok (.getfield 45, 3) := by decide +kernel
theorem dX11_digest_84 : decode cX11_digest 84 = .ok (.iconst 0, 1) := by decide +kernel
theorem dX11_digest_85 : decode cX11_digest 85 = .ok (.invokevirtual 71, 3) := by decide +kernel
theorem dX11_digest_88 : decode cX11_digest 88 = .ok (.invokevirtual 268, 3) := by decide +kernel
theorem dX11_digest_91 : decode cX11_digest 91 = .ok (.lstore_n 1, 1) := by decide +kernel
theorem dX11_digest_92 : decode cX11_digest 92 = .ok (.aload_n 0, 1) := by decide +kernel
theorem dX11_digest_93 : decode cX11_digest 93 = .ok (.lload_n 1, 1) := by decide +kernel
theorem dX11_digest_94 : decode cX11_digest 94 = .ok (.aload_n 0, 1) := by decide +kernel
theorem dX11_digest_95 : decode cX11_digest 95 = .ok (.aload_n 0, 1) := by decide +kernel
theorem dX11_digest_96 : decode cX11_digest 96 = .ok (.getfield 41, 3) := by decide +kernel
theorem dX11_digest_99 : decode cX11_digest 99 = .ok (.invokevirtual 194, 3) := by decide +kernel
theorem dX11_digest_102 : decode cX11_digest 102 = .ok (.aload_n 0, 1) := by decide +kernel
theorem dX11_digest_103 : decode cX11_digest 103 = .ok (.aload_n 0, 1) := by decide +kernel
theorem dX11_digest_104 : decode cX11_digest 104 = .ok (.getfield 45, 3) := by decide +kernel
theorem dX11_digest_107 : decode cX11_digest 107 = .ok (.invokevirtual 194, 3) := by decide +kernel
theorem dX11_digest_110 : decode cX11_digest 110 = .ok (.invokevirtual 268, 3) := by decide +kernel
theorem dX11_digest_113 : decode cX11_digest 113 = .ok (.lstore_n 1, 1) := by decide +kernel
theorem dX11_digest_114 : decode cX11_digest 114 = .ok (.lload_n 1, 1) := by decide +kernel
theorem dX11_digest_115 : decode cX11_digest 115 = .ok (.ldc2_w 247, 3) := by decide +kernel
theorem dX11_digest_118 : decode cX11_digest 118 = .ok (.lmul, 1) := by decide +kernel
theorem dX11_digest_119 : decode cX11_digest 119 = .ok (.aload_n 0, 1) := by decide +kernel
theorem dX11_digest_120 : decode cX11_digest 120 = .ok (.iconst 0, 1) := by decide +kernel
theorem dX11_digest_121 : decode cX11_digest 121 = .ok (.invokevirtual 272, 3) := by decide +kernel
theorem dX11_digest_124 : decode cX11_digest 124 = .ok (.i2l, 1) := by decide +kernel
theorem dX11_digest_125 : decode cX11_digest 125 = .ok (.ladd, 1) := by decide +kernel
theorem dX11_digest_126 : decode cX11_digest 126 = .ok (.lstore_n 1, 1) := by decide +kernel
theorem dX11_digest_127 : decode cX11_digest 127 = .ok (.lload_n 1, 1) := by decide +kernel
theorem dX11_digest_128 : decode cX11_digest 128 = .ok (.ldc2_w 247, 3) := by decide +kernel
theorem dX11_digest_131 : decode cX11_digest 131 = .ok (.lmul, 1) := by decide +kernel
theorem dX11_digest_132 : decode cX11_digest 132 = .ok (.aload_n 0, 1) := by decide +kernel
theorem dX11_digest_133 : decode cX11_digest 133 = .ok (.iconst 5, 1) := by decide +kernel
theorem dX11_digest_134 : decode cX11_digest 134 = .ok (.invokevirtual 272, 3) := by decide +kernel
theorem dX11_digest_137 : decode cX11_digest 137 = .ok (.i2l, 1) := by decide +kernel
theorem dX11_digest_138 : decode cX11_digest 138 = .ok (.ladd, 1) := by decide +kernel
theorem dX11_digest_139 : decode cX11_digest 139 = .ok (.lstore_n 1, 1) := by decide +kernel
theorem dX11_digest_140 : decode cX11_digest 140 = .ok (.lload_n 1, 1) := by decide +kernel
theorem dX11_digest_141 : decode cX11_digest 141 = .ok (.ldc2_w 247, 3) := by decide +kernel
theorem dX11_digest_144 : decode cX11_digest 144 = .ok (.lmul, 1) := by decide +kernel
theorem dX11_digest_145 : decode cX11_digest 145 = .ok (.aload_n 0, 1) := by decide +kernel
theorem dX11_digest_146 : decode cX11_digest 146 = .ok (.invokevirtual 275, 3) := by decide +kernel
theorem dX11_digest_149 : decode cX11_digest 149 = .ok (.i2l, 1) := by decide +kernel
theorem dX11_digest_150 : decode cX11_digest 150 = .ok (.ladd, 1) := by decide +kernel
theorem dX11_digest_151 : decode cX11_digest 151 = .ok (.lreturn, 1) := by decide +kernel
theorem dX11_withStages_0 : decode cX11_withStages 0 = .ok (.lload_n 1, 1) := by decide +kernel
theorem dX11_withStages_1 : decode cX11_withStages 1 = .ok (.lstore_n 3, 1) := by decide +kernel
theorem dX11_withStages_2 : decode cX11_withStages 2 = .ok (.iconst 0, 1) := by decide +kernel
theorem dX11_withStages_3 : decode cX11_withStages 3 = .ok (.istore 5, 2) := by decide +kernel
theorem dX11_withStages_5 : decode cX11_withStages 5 = .ok (.iload 5, 2) := by decide +kernel
theorem dX11_withStages_7 : decode cX11_withStages 7 = .ok (.aload_n 0, 1) := by decide +kernel
theorem dX11_withStages_8 : decode cX11_withStages 8 = .ok (.getfield 10, 3) := by decide +kernel
theorem dX11_withStages_11 : decode cX11_withStages 11 = .ok (.invokevirtual 142, 3) := by decide +kernel
theorem dX11_withStages_14 : decode cX11_withStages 14 = .ok (.if_icmp .ge 97, 3) := by decide +kernel
theorem dX11_withStages_17 : decode cX11_withStages 17 = .ok (.iconst 0, 1) := by decide +kernel
theorem dX11_withStages_18 : decode cX11_withStages 18 = .ok (.istore 6, 2) := by decide +kernel
theorem dX11_withStages_20 : decode cX11_withStages 20 = .ok (.iload 6, 2) := by decide +kernel
theorem dX11_withStages_22 : decode cX11_withStages 22 = .ok (.iconst 4, 1) := by decide +kernel
theorem dX11_withStages_23 : decode cX11_withStages 23 = .ok (.if_icmp .gt 25, 3) := by decide +kernel
theorem dX11_withStages_26 : decode cX11_withStages 26 = .ok (.lload_n 3, 1) := by decide +kernel
theorem dX11_withStages_27 : decode cX11_withStages 27 = .ok (.ldc2_w 247, 3) := by decide +kernel
theorem dX11_withStages_30 : decode cX11_withStages 30 = .ok (.lmul, 1) := by decide +kernel
theorem dX11_withStages_31 : decode cX11_withStages 31 = .ok (.aload_n 0, 1) := by decide +kernel
theorem dX11_withStages_32 : decode cX11_withStages 32 = .ok (.iload 5, 2) := by decide +kernel
theorem dX11_withStages_34 : decode cX11_withStages 34 = .ok (.iload 6, 2) := by decide +kernel
theorem dX11_withStages_36 : decode cX11_withStages 36 = .ok (.invokevirtual 278, 3) := by decide +kernel
theorem dX11_withStages_39 : decode cX11_withStages 39 = .ok (.i2l, 1) := by decide +kernel
theorem dX11_withStages_40 : decode cX11_withStages 40 = .ok (.ladd, 1) := by decide +kernel
theorem dX11_withStages_41 : decode cX11_withStages 41 = .ok (.lstore_n 3, 1) := by decide +kernel
theorem dX11_withStages_42 : decode cX11_withStages 42 = .ok (.iinc 6 1, 3) := by decide +kernel
theorem dX11_withStages_45 : decode cX11_withStages 45 = .ok (.goto (-25), 3) := by decide +kernel
theorem dX11_withStages_48 : decode cX11_withStages 48 = .ok (.lload_n 3, 1) := by decide +kernel
theorem dX11_withStages_49 : decode cX11_withStages 49 = .ok (.ldc2_w 247, 3) := by decide +kernel
theorem dX11_withStages_52 : decode cX11_withStages 52 = .ok (.lmul, 1) := by decide +kernel
theorem dX11_withStages_53 : decode cX11_withStages 53 = .ok (.aload_n 0, 1) := by decide +kernel
theorem dX11_withStages_54 : decode cX11_withStages 54 = .ok (.iload 5, 2) := by decide +kernel
theorem dX11_withStages_56 : decode cX11_withStages 56 = .ok (.invokevirtual 282, 3) := by decide +kernel
theorem dX11_withStages_59 : decode cX11_withStages 59 = .ok (.i2l, 1) := by decide +kernel
theorem dX11_withStages_60 : decode cX11_withStages 60 = .ok (.ladd, 1) := by decide +kernel
theorem dX11_withStages_61 : decode cX11_withStages 61 = .ok (.lstore_n 3, 1) := by decide +kernel
theorem dX11_withStages_62 : decode cX11_withStages 62 = .ok (.aload_n 0, 1) := by decide +kernel
theorem dX11_withStages_63 : decode cX11_withStages 63 = .ok (.iload 5, 2) := by decide +kernel
theorem dX11_withStages_65 : decode cX11_withStages 65 = .ok (.iconst 0, 1) := by decide +kernel
theorem dX11_withStages_66 : decode cX11_withStages 66 = .ok (.invokevirtual 278, 3) := by decide +kernel
theorem dX11_withStages_69 : decode cX11_withStages 69 = .ok (.iconst 1, 1) := by decide +kernel
theorem dX11_withStages_70 : decode cX11_withStages 70 = .ok (.if_icmp .ne 35, 3) := by decide +kernel
theorem dX11_withStages_73 : decode cX11_withStages 73 = .ok (.iconst 0, 1) := by decide +kernel
theorem dX11_withStages_74 : decode cX11_withStages 74 = .ok (.istore 6, 2) := by decide +kernel
theorem dX11_withStages_76 : decode cX11_withStages 76 = .ok (.iload 6, 2) := by decide +kernel
theorem dX11_withStages_78 : decode cX11_withStages 78 = .ok (.bipush 10, 2) := by decide +kernel
theorem dX11_withStages_80 : decode cX11_withStages 80 = .ok (.if_icmp .gt 25, 3) := by decide +kernel
theorem dX11_withStages_83 : decode cX11_withStages 83 = .ok (.lload_n 3, 1) := by decide +kernel
theorem dX11_withStages_84 : decode cX11_withStages 84 = .ok (.ldc2_w 247, 3) := by decide +kernel
theorem dX11_withStages_87 : decode cX11_withStages 87 = .ok (.lmul, 1) := by decide +kernel
theorem dX11_withStages_88 : decode cX11_withStages 88 = .ok (.aload_n 0, 1) := by decide +kernel
theorem dX11_withStages_89 : decode cX11_withStages 89 = .ok (.iload 5, 2) := by decide +kernel
theorem dX11_withStages_91 : decode cX11_withStages 91 = .ok (.iload 6, 2) := by decide +kernel
theorem dX11_withStages_93 : decode cX11_withStages 93 = .ok (.invokevirtual 285, 3) := by decide +kernel
theorem dX11_withStages_96 : decode cX11_withStages 96 = .ok (.i2l, 1) := by decide +kernel
theorem dX11_withStages_97 : decode cX11_withStages 97 = .ok (.ladd, 1) := by decide +kernel
theorem dX11_withStages_98 : decode cX11_withStages 98 = .ok (.lstore_n 3, 1) := by decide +kernel
theorem dX11_withStages_99 : decode cX11_withStages 99 = .ok (.iinc 6 1, 3) := by decide +kernel
theorem dX11_withStages_102 : decode cX11_withStages 102 = .ok (.goto (-26), 3) := by decide +kernel
theorem dX11_withStages_105 : decode cX11_withStages 105 = .ok (.iinc 5 1, 3) := by decide +kernel
theorem dX11_withStages_108 : decode cX11_withStages 108 = .ok (.goto (-103), 3) := by decide +kernel
theorem dX11_withStages_111 : decode cX11_withStages 111 = .ok (.lload_n 3, 1) := by decide +kernel
theorem dX11_withStages_112 : decode cX11_withStages 112 = .ok (.lreturn, 1) := by decide +kernel
theorem dX11_withPlaces_0 : decode cX11_withPlaces 0 = .ok (.lload_n 1, 1) := by decide +kernel
theorem dX11_withPlaces_1 : decode cX11_withPlaces 1 = .ok (.lstore 5, 2) := by decide +kernel
theorem dX11_withPlaces_3 : decode cX11_withPlaces 3 = .ok (.iconst 0, 1) := by decide +kernel
theorem dX11_withPlaces_4 : decode cX11_withPlaces 4 = .ok (.istore 7, 2) := by decide +kernel
theorem dX11_withPlaces_6 : decode cX11_withPlaces 6 = .ok (.iload 7, 2) := by decide +kernel
theorem dX11_withPlaces_8 : decode cX11_withPlaces 8 = .ok (.aload_n 3, 1) := by decide +kernel
theorem dX11_withPlaces_9 : decode cX11_withPlaces 9 = .ok (.invokevirtual 75, 3) := by decide +kernel
theorem dX11_withPlaces_12 : decode cX11_withPlaces 12 = .ok (.if_icmp .ge 42, 3) := by decide +kernel
theorem dX11_withPlaces_15 : decode cX11_withPlaces 15 = .ok (.lload 5, 2) := by decide +kernel
theorem dX11_withPlaces_17 : decode cX11_withPlaces 17 = .ok (.ldc2_w 247, 3) := by decide +kernel
theorem dX11_withPlaces_20 : decode cX11_withPlaces 20 = .ok (.lmul, 1) := by decide +kernel
theorem dX11_withPlaces_21 : decode cX11_withPlaces 21 = .ok (.aload_n 3, 1) := by decide +kernel
theorem dX11_withPlaces_22 : decode cX11_withPlaces 22 = .ok (.iload 7, 2) := by decide +kernel
theorem dX11_withPlaces_24 : decode cX11_withPlaces 24 = .ok (.invokevirtual 202, 3) := by decide +kernel
theorem dX11_withPlaces_27 : decode cX11_withPlaces 27 = .ok (.i2l, 1) := by decide +kernel
theorem dX11_withPlaces_28 : decode cX11_withPlaces 28 = .ok (.ladd, 1) := by decide +kernel
theorem dX11_withPlaces_29 : decode cX11_withPlaces 29 = .ok (.lstore 5, 2) := by decide +kernel
theorem dX11_withPlaces_31 : decode cX11_withPlaces 31 = .ok (.lload 5, 2) := by decide +kernel
theorem dX11_withPlaces_33 : decode cX11_withPlaces 33 = .ok (.ldc2_w 247, 3) := by decide +kernel
theorem dX11_withPlaces_36 : decode cX11_withPlaces 36 = .ok (.lmul, 1) := by decide +kernel
theorem dX11_withPlaces_37 : decode cX11_withPlaces 37 = .ok (.aload 4, 2) := by decide +kernel
theorem dX11_withPlaces_39 : decode cX11_withPlaces 39 = .ok (.iload 7, 2) := by decide +kernel
theorem dX11_withPlaces_41 : decode cX11_withPlaces 41 = .ok (.invokevirtual 202, 3) := by decide +kernel
theorem dX11_withPlaces_44 : decode cX11_withPlaces 44 = .ok (.i2l, 1) := by decide +kernel
theorem dX11_withPlaces_45 : decode cX11_withPlaces 45 = .ok (.ladd, 1) := by decide +kernel
theorem dX11_withPlaces_46 : decode cX11_withPlaces 46 = .ok (.lstore 5, 2) := by decide +kernel
theorem dX11_withPlaces_48 : decode cX11_withPlaces 48 = .ok (.iinc 7 1, 3) := by decide +kernel
theorem dX11_withPlaces_51 : decode cX11_withPlaces 51 = .ok (.goto (-45), 3) := by decide +kernel
theorem dX11_withPlaces_54 : decode cX11_withPlaces 54 = .ok (.lload 5, 2) := by decide +kernel
theorem dX11_withPlaces_56 : decode cX11_withPlaces 56 = .ok (.lreturn, 1) := by decide +kernel
theorem dX11_putBehind_0 : decode cX11_putBehind 0 = .ok (.aload_n 0, 1) := by decide +kernel
theorem dX11_putBehind_1 : decode cX11_putBehind 1 = .ok (.getfield 10, 3) := by decide +kernel
theorem dX11_putBehind_4 : decode cX11_putBehind 4 = .ok (.invokevirtual 142, 3) := by decide +kernel
theorem dX11_putBehind_7 : decode cX11_putBehind 7 = .ok (.iconst 4, 1) := by decide +kernel
theorem dX11_putBehind_8 : decode cX11_putBehind 8 = .ok (.if_icmp .lt 14, 3) := by decide +kernel
theorem dX11_putBehind_11 : decode cX11_putBehind 11 = .ok (.new 79, 3) := by decide +kernel
theorem dX11_putBehind_14 : decode cX11_putBehind 14 = .ok (.dup, 1) := by decide +kernel
theorem dX11_putBehind_15 : decode cX11_putBehind 15 = .ok (.ldc_w 288, 3) := by decide +kernel
theorem dX11_putBehind_18 : decode cX11_putBehind 18 = .ok (.invokespecial 83, 3) := by decide +kernel
theorem dX11_putBehind_21 : decode cX11_putBehind 21 = .ok (.athrow, 1) := by decide +kernel
theorem dX11_putBehind_22 : decode cX11_putBehind 22 = .ok (.aload_n 1, 1) := by decide +kernel
theorem dX11_putBehind_23 : decode cX11_putBehind 23 = .ok (.aload_n 0, 1) := by decide +kernel
theorem dX11_putBehind_24 : decode cX11_putBehind 24 = .ok (.aload_n 0, 1) := by decide +kernel
theorem dX11_putBehind_25 : decode cX11_putBehind 25 = .ok (.getfield 41, 3) := by decide +kernel
theorem dX11_putBehind_28 : decode cX11_putBehind 28 = .ok (.invokevirtual 194, 3) := by decide +kernel
theorem dX11_putBehind_31 : decode cX11_putBehind 31 = .ok (.invokevirtual 75, 3) := by decide +kernel
theorem dX11_putBehind_34 : decode cX11_putBehind 34 = .ok (.invokevirtual 290, 3) := by decide +kernel
theorem dX11_putBehind_37 : decode cX11_putBehind 37 = .ok (.sipush 320, 3) := by decide +kernel
theorem dX11_putBehind_40 : decode cX11_putBehind 40 = .ok (.if_icmp .le 13, 3) := by decide +kernel
theorem dX11_putBehind_43 : decode cX11_putBehind 43 = .ok (.new 79, 3) := by decide +kernel
theorem dX11_putBehind_46 : decode cX11_putBehind 46 = .ok (.dup, 1) := by decide +kernel
theorem dX11_putBehind_47 : decode cX11_putBehind 47 = .ok (.ldc 88, 2) := by decide +kernel
theorem dX11_putBehind_49 : decode cX11_putBehind 49 = .ok (.invokespecial 83, 3) := by decide +kernel
theorem dX11_putBehind_52 : decode cX11_putBehind 52 = .ok (.athrow, 1) := by decide +kernel
theorem dX11_putBehind_53 : decode cX11_putBehind 53 = .ok (.aload_n 0, 1) := by decide +kernel
theorem dX11_putBehind_54 : decode cX11_putBehind 54 = .ok (.getfield 10, 3) := by decide +kernel
theorem dX11_putBehind_57 : decode cX11_putBehind 57 = .ok (.aload_n 1, 1) := by decide +kernel
theorem dX11_putBehind_58 : decode cX11_putBehind 58 = .ok (.invokevirtual 293, 3) := by decide +kernel
theorem dX11_putBehind_61 : decode cX11_putBehind 61 = .ok (.aload_n 0, 1) := by decide +kernel
theorem dX11_putBehind_62 : decode cX11_putBehind 62 = .ok (.invokevirtual 94, 3) := by decide +kernel
theorem dX11_putBehind_65 : decode cX11_putBehind 65 = .ok (.aload_n 0, 1) := by decide +kernel
theorem dX11_putBehind_66 : decode cX11_putBehind 66 = .ok (.aload_n 0, 1) := by decide +kernel
theorem dX11_putBehind_67 : decode cX11_putBehind 67 = .ok (.getfield 41, 3) := by decide +kernel
theorem dX11_putBehind_70 : decode cX11_putBehind 70 = .ok (.invokevirtual 194, 3) := by decide +kernel
theorem dX11_putBehind_73 : decode cX11_putBehind 73 = .ok (.invokevirtual 75, 3) := by decide +kernel
theorem dX11_putBehind_76 : decode cX11_putBehind 76 = .ok (.ireturn, 1) := by decide +kernel
theorem dX11_settle_0 : decode cX11_settle 0 = .ok (.aload_n 0, 1) := by decide +kernel
theorem dX11_settle_1 : decode cX11_settle 1 = .ok (.getfield 10, 3) := by decide +kernel
theorem dX11_settle_4 : decode cX11_settle 4 = .ok (.aload_n 0, 1) := by decide +kernel
theorem dX11_settle_5 : decode cX11_settle 5 = .ok (.getfield 41, 3) := by decide +kernel
theorem dX11_settle_8 : decode cX11_settle 8 = .ok (.invokevirtual 297, 3) := by decide +kernel
theorem dX11_settle_11 : decode cX11_settle 11 = .ok (.aload_n 0, 1) := by decide +kernel
theorem dX11_settle_12 : decode cX11_settle 12 = .ok (.aload_n 0, 1) := by decide +kernel
theorem dX11_settle_13 : decode cX11_settle 13 = .ok (.getfield 19, 3) := by decide +kernel
theorem dX11_settle_16 : decode cX11_settle 16 = .ok (.aload_n 0, 1) := by decide +kernel
theorem dX11_settle_17 : decode cX11_settle 17 = .ok (.getfield 45, 3) := by decide +kernel
theorem dX11_settle_20 : decode cX11_settle 20 = .ok (.invokevirtual 241, 3) := by decide +kernel
theorem dX11_settle_23 : decode cX11_settle 23 = .ok (.aload_n 0, 1) := by decide +kernel
theorem dX11_settle_24 : decode cX11_settle 24 = .ok (.getfield 10, 3) := by decide +kernel
theorem dX11_settle_27 : decode cX11_settle 27 = .ok (.aload_n 0, 1) := by decide +kernel
theorem dX11_settle_28 : decode cX11_settle 28 = .ok (.getfield 45, 3) := by decide +kernel
theorem dX11_settle_31 : decode cX11_settle 31 = .ok (.aload_n 0, 1) := by decide +kernel
theorem dX11_settle_32 : decode cX11_settle 32 = .ok (.getfield 41, 3) := by decide +kernel
theorem dX11_settle_35 : decode cX11_settle 35 = .ok (.invokevirtual 233, 3) := by decide +kernel
theorem dX11_settle_38 : decode cX11_settle 38 = .ok (.return_, 1) := by decide +kernel
theorem dX11_send_0 : decode cX11_send 0 = .ok (.aload_n 0, 1) := by decide +kernel
theorem dX11_send_1 : decode cX11_send 1 = .ok (.aload_n 2, 1) := by decide +kernel
theorem dX11_send_2 : decode cX11_send 2 = .ok (.invokevirtual 194, 3) := by decide +kernel
theorem dX11_send_5 : decode cX11_send 5 = .ok (.astore_n 3, 1) := by decide +kernel
theorem dX11_send_6 : decode cX11_send 6 = .ok (.aload_n 3, 1) := by decide +kernel
theorem dX11_send_7 : decode cX11_send 7 = .ok (.aload_n 0, 1) := by decide +kernel
theorem dX11_send_8 : decode cX11_send 8 = .ok (.aload_n 0, 1) := by decide +kernel
theorem dX11_send_9 : decode cX11_send 9 = .ok (.getfield 41, 3) := by decide +kernel
theorem dX11_send_12 : decode cX11_send 12 = .ok (.invokevirtual 194, 3) := by decide +kernel
theorem dX11_send_15 : decode cX11_send 15 = .ok (.invokevirtual 229, 3) := by decide +kernel
theorem dX11_send_18 : decode cX11_send 18 = .ok (.aload_n 1, 1) := by decide +kernel
theorem dX11_send_19 : decode cX11_send 19 = .ok (.aload_n 3, 1) := by decide +kernel
theorem dX11_send_20 : decode cX11_send 20 = .ok (.invokevirtual 301, 3) := by decide +kernel
theorem dX11_send_23 : decode cX11_send 23 = .ok (.aload_n 3, 1) := by decide +kernel
theorem dX11_send_24 : decode cX11_send 24 = .ok (.aload_n 0, 1) := by decide +kernel
theorem dX11_send_25 : decode cX11_send 25 = .ok (.getfield 31, 3) := by decide +kernel
theorem dX11_send_28 : decode cX11_send 28 = .ok (.invokevirtual 304, 3) := by decide +kernel
theorem dX11_send_31 : decode cX11_send 31 = .ok (.return_, 1) := by decide +kernel
theorem dX11_errorsTurned_0 : decode cX11_errorsTurned 0 = .ok (.aload_n 0, 1) := by decide +kernel
theorem dX11_errorsTurned_1 : decode cX11_errorsTurned 1 = .ok (.aload_n 0, 1) := by decide +kernel
theorem dX11_errorsTurned_2 : decode cX11_errorsTurned 2 = .ok (.getfield 48, 3) := by decide +kernel
theorem dX11_errorsTurned_5 : decode cX11_errorsTurned 5 = .ok (.invokevirtual 194, 3) := by decide +kernel
theorem dX11_errorsTurned_8 : decode cX11_errorsTurned 8 = .ok (.astore_n 2, 1) := by decide +kernel
theorem dX11_errorsTurned_9 : decode cX11_errorsTurned 9 = .ok (.aload_n 2, 1) := by decide +kernel
theorem dX11_errorsTurned_10 : decode cX11_errorsTurned 10 = .ok (.aload_n 0, 1) := by decide +kernel
theorem dX11_errorsTurned_11 : decode cX11_errorsTurned 11 = .ok (.aload_n 0, 1) := by decide +kernel
theorem dX11_errorsTurned_12 : decode cX11_errorsTurned 12 = .ok (.getfield 45, 3) := by decide +kernel
theorem dX11_errorsTurned_15 : decode cX11_errorsTurned 15 = .ok (.invokevirtual 194, 3) := by decide +kernel
theorem dX11_errorsTurned_18 : decode cX11_errorsTurned 18 = .ok (.invokevirtual 229, 3) := by decide +kernel
theorem dX11_errorsTurned_21 : decode cX11_errorsTurned 21 = .ok (.aload_n 2, 1) := by decide +kernel
theorem dX11_errorsTurned_22 : decode cX11_errorsTurned 22 = .ok (.iload_n 1, 1) := by decide +kernel
theorem dX11_errorsTurned_23 : decode cX11_errorsTurned 23 = .ok (.invokevirtual 169, 3) := by decide +kernel
theorem dX11_errorsTurned_26 : decode cX11_errorsTurned 26 = .ok (.aload_n 0, 1) := by decide +kernel
theorem dX11_errorsTurned_27 : decode cX11_errorsTurned 27 = .ok (.getfield 10, 3) := by decide +kernel
theorem dX11_errorsTurned_30 : decode cX11_errorsTurned 30 = .ok (.aload_n 0, 1) := by decide +kernel
theorem dX11_errorsTurned_31 : decode cX11_errorsTurned 31 = .ok (.getfield 48, 3) := by decide +kernel
theorem dX11_errorsTurned_34 : decode cX11_errorsTurned 34 = .ok (.aload_n 0, 1) := by decide +kernel
theorem dX11_errorsTurned_35 : decode cX11_errorsTurned 35 = .ok (.getfield 41, 3) := by decide +kernel
theorem dX11_errorsTurned_38 : decode cX11_errorsTurned 38 = .ok (.invokevirtual 233, 3) := by decide +kernel
theorem dX11_errorsTurned_41 : decode cX11_errorsTurned 41 = .ok (.aload_n 0, 1) := by decide +kernel
theorem dX11_errorsTurned_42 : decode cX11_errorsTurned 42 = .ok (.aload_n 0, 1) := by decide +kernel
theorem dX11_errorsTurned_43 : decode cX11_errorsTurned 43 = .ok (.getfield 48, 3) := by decide +kernel
theorem dX11_errorsTurned_46 : decode cX11_errorsTurned 46 = .ok (.invokevirtual 210, 3) := by decide +kernel
theorem dX11_errorsTurned_49 : decode cX11_errorsTurned 49 = .ok (.ireturn, 1) := by decide +kernel
theorem dX11_errorsIn_0 : decode cX11_errorsIn 0 = .ok (.aload_n 0, 1) := by decide +kernel
theorem dX11_errorsIn_1 : decode cX11_errorsIn 1 = .ok (.getfield 41, 3) := by decide +kernel
theorem dX11_errorsIn_4 : decode cX11_errorsIn 4 = .ok (.iconst 0, 1) := by decide +kernel
theorem dX11_errorsIn_5 : decode cX11_errorsIn 5 = .ok (.invokevirtual 71, 3) := by decide +kernel
theorem dX11_errorsIn_8 : decode cX11_errorsIn 8 = .ok (.aload_n 1, 1) := by decide +kernel
theorem dX11_errorsIn_9 : decode cX11_errorsIn 9 = .ok (.iconst 0, 1) := by decide +kernel
theorem dX11_errorsIn_10 : decode cX11_errorsIn 10 = .ok (.invokevirtual 71, 3) := by decide +kernel
theorem dX11_errorsIn_13 : decode cX11_errorsIn 13 = .ok (.invokevirtual 207, 3) := by decide +kernel
theorem dX11_errorsIn_16 : decode cX11_errorsIn 16 = .ok (.ireturn, 1) := by decide +kernel
theorem dX11_mendedBy_0 : decode cX11_mendedBy 0 = .ok (.aload_n 0, 1) := by decide +kernel
theorem dX11_mendedBy_1 : decode cX11_mendedBy 1 = .ok (.getfield 45, 3) := by decide +kernel
theorem dX11_mendedBy_4 : decode cX11_mendedBy 4 = .ok (.iload_n 2, 1) := by decide +kernel
theorem dX11_mendedBy_5 : decode cX11_mendedBy 5 = .ok (.iconst 1, 1) := by decide +kernel
theorem dX11_mendedBy_6 : decode cX11_mendedBy 6 = .ok (.iadd, 1) := by decide +kernel
theorem dX11_mendedBy_7 : decode cX11_mendedBy 7 = .ok (.invokevirtual 71, 3) := by decide +kernel
theorem dX11_mendedBy_10 : decode cX11_mendedBy 10 = .ok (.astore_n 3, 1) := by decide +kernel
theorem dX11_mendedBy_11 : decode cX11_mendedBy 11 = .ok (.aload_n 0, 1) := by decide +kernel
theorem dX11_mendedBy_12 : decode cX11_mendedBy 12 = .ok (.getfield 48, 3) := by decide +kernel
theorem dX11_mendedBy_15 : decode cX11_mendedBy 15 = .ok (.iload_n 2, 1) := by decide +kernel
theorem dX11_mendedBy_16 : decode cX11_mendedBy 16 = .ok (.iconst 1, 1) := by decide +kernel
theorem dX11_mendedBy_17 : decode cX11_mendedBy 17 = .ok (.iadd, 1) := by decide +kernel
theorem dX11_mendedBy_18 : decode cX11_mendedBy 18 = .ok (.invokevirtual 71, 3) := by decide +kernel
theorem dX11_mendedBy_21 : decode cX11_mendedBy 21 = .ok (.astore 4, 2) := by decide +kernel
theorem dX11_mendedBy_23 : decode cX11_mendedBy 23 = .ok (.aload 4, 2) := by decide +kernel
theorem dX11_mendedBy_25 : decode cX11_mendedBy 25 = .ok (.aload_n 3, 1) := by decide +kernel
theorem dX11_mendedBy_26 : decode cX11_mendedBy 26 = .ok (.invokevirtual 75, 3) := by decide +kernel
theorem dX11_mendedBy_29 : decode cX11_mendedBy 29 = .ok (.invokevirtual 35, 3) := by decide +kernel
theorem dX11_mendedBy_32 : decode cX11_mendedBy 32 = .ok (.aload_n 1, 1) := by decide +kernel
theorem dX11_mendedBy_33 : decode cX11_mendedBy 33 = .ok (.aload_n 0, 1) := by decide +kernel
theorem dX11_mendedBy_34 : decode cX11_mendedBy 34 = .ok (.getfield 45, 3) := by decide +kernel
theorem dX11_mendedBy_37 : decode cX11_mendedBy 37 = .ok (.iload_n 2, 1) := by decide +kernel
theorem dX11_mendedBy_38 : decode cX11_mendedBy 38 = .ok (.invokevirtual 71, 3) := by decide +kernel
theorem dX11_mendedBy_41 : decode cX11_mendedBy 41 = .ok (.aload 4, 2) := by decide +kernel
theorem dX11_mendedBy_43 : decode cX11_mendedBy 43 = .ok (.invokevirtual 307, 3) := by decide +kernel
theorem dX11_mendedBy_46 : decode cX11_mendedBy 46 = .ok (.aload 4, 2) := by decide +kernel
theorem dX11_mendedBy_48 : decode cX11_mendedBy 48 = .ok (.aload_n 3, 1) := by decide +kernel
theorem dX11_mendedBy_49 : decode cX11_mendedBy 49 = .ok (.invokevirtual 207, 3) := by decide +kernel
theorem dX11_mendedBy_52 : decode cX11_mendedBy 52 = .ok (.ireturn, 1) := by decide +kernel
theorem dX11_last_0 : decode cX11_last 0 = .ok (.aload_n 1, 1) := by decide +kernel
theorem dX11_last_1 : decode cX11_last 1 = .ok (.aload_n 0, 1) := by decide +kernel
theorem dX11_last_2 : decode cX11_last 2 = .ok (.getfield 10, 3) := by decide +kernel
theorem dX11_last_5 : decode cX11_last 5 = .ok (.invokevirtual 142, 3) := by decide +kernel
theorem dX11_last_8 : decode cX11_last 8 = .ok (.invokevirtual 71, 3) := by decide +kernel
theorem dX11_last_11 : decode cX11_last 11 = .ok (.areturn, 1) := by decide +kernel
theorem dX11_fits_0 : decode cX11_fits 0 = .ok (.iload_n 0, 1) := by decide +kernel
theorem dX11_fits_1 : decode cX11_fits 1 = .ok (.ifCond .lt 24, 3) := by decide +kernel
theorem dX11_fits_4 : decode cX11_fits 4 = .ok (.iload_n 1, 1) := by decide +kernel
theorem dX11_fits_5 : decode cX11_fits 5 = .ok (.ifCond .lt 20, 3) := by decide +kernel
theorem dX11_fits_8 : decode cX11_fits 8 = .ok (.iload_n 1, 1) := by decide +kernel
theorem dX11_fits_9 : decode cX11_fits 9 = .ok (.bipush 31, 2) := by decide +kernel
theorem dX11_fits_11 : decode cX11_fits 11 = .ok (.if_icmp .ge 14, 3) := by decide +kernel
theorem dX11_fits_14 : decode cX11_fits 14 = .ok (.iload_n 0, 1) := by decide +kernel
theorem dX11_fits_15 : decode cX11_fits 15 = .ok (.iconst 1, 1) := by decide +kernel
theorem dX11_fits_16 : decode cX11_fits 16 = .ok (.iload_n 1, 1) := by decide +kernel
theorem dX11_fits_17 : decode cX11_fits 17 = .ok (.ishl, 1) := by decide +kernel
theorem dX11_fits_18 : decode cX11_fits 18 = .ok (.if_icmp .ge 7, 3) := by decide +kernel
theorem dX11_fits_21 : decode cX11_fits 21 = .ok (.iconst 1, 1) := by decide +kernel
theorem dX11_fits_22 : decode cX11_fits 22 = .ok (.goto 4, 3) := by decide +kernel
theorem dX11_fits_25 : decode cX11_fits 25 = .ok (.iconst 0, 1) := by decide +kernel
theorem dX11_fits_26 : decode cX11_fits 26 = .ok (.ireturn, 1) := by decide +kernel
theorem dX11_blocksOf_0 : decode cX11_blocksOf 0 = .ok (.iload_n 0, 1) := by decide +kernel
theorem dX11_blocksOf_1 : decode cX11_blocksOf 1 = .ok (.ifCond .le 7, 3) := by decide +kernel
theorem dX11_blocksOf_4 : decode cX11_blocksOf 4 = .ok (.iload_n 1, 1) := by decide +kernel
theorem dX11_blocksOf_5 : decode cX11_blocksOf 5 = .ok (.ifCond .gt 7, 3) := by decide +kernel
theorem dX11_blocksOf_8 : decode cX11_blocksOf 8 = .ok (.iconst 0, 1) := by decide +kernel
theorem dX11_blocksOf_9 : decode cX11_blocksOf 9 = .ok (.goto 10, 3) := by decide +kernel
theorem dX11_blocksOf_12 : decode cX11_blocksOf 12 = .ok (.iload_n 0, 1) := by decide +kernel
theorem dX11_blocksOf_13 : decode cX11_blocksOf 13 = .ok (.iload_n 1, 1) := by decide +kernel
theorem dX11_blocksOf_14 : decode cX11_blocksOf 14 = .ok (.iadd, 1) := by decide +kernel
theorem dX11_blocksOf_15 : decode cX11_blocksOf 15 = .ok (.iconst 1, 1) := by decide +kernel
theorem dX11_blocksOf_16 : decode cX11_blocksOf 16 = .ok (.isub, 1) := by decide +kernel
theorem dX11_blocksOf_17 : decode cX11_blocksOf 17 = .ok (.iload_n 1, 1) := by decide +kernel
theorem dX11_blocksOf_18 : decode cX11_blocksOf 18 = .ok (.idiv, 1) := by decide +kernel
theorem dX11_blocksOf_19 : decode cX11_blocksOf 19 = .ok (.ireturn, 1) := by decide +kernel
theorem dX11_at_0 : decode cX11_at 0 = .ok (.aload_n 0, 1) := by decide +kernel
theorem dX11_at_1 : decode cX11_at 1 = .ok (.ifnull 13, 3) := by decide +kernel
theorem dX11_at_4 : decode cX11_at 4 = .ok (.iload_n 1, 1) := by decide +kernel
theorem dX11_at_5 : decode cX11_at 5 = .ok (.ifCond .lt 9, 3) := by decide +kernel
theorem dX11_at_8 : decode cX11_at 8 = .ok (.iload_n 1, 1) := by decide +kernel
theorem dX11_at_9 : decode cX11_at 9 = .ok (.aload_n 0, 1) := by decide +kernel
theorem dX11_at_10 : decode cX11_at 10 = .ok (.arraylength, 1) := by decide +kernel
theorem dX11_at_11 : decode cX11_at 11 = .ok (.if_icmp .lt 7, 3) := by decide +kernel
theorem dX11_at_14 : decode cX11_at 14 = .ok (.iconst 0, 1) := by decide +kernel
theorem dX11_at_15 : decode cX11_at 15 = .ok (.goto 6, 3) := by decide +kernel
theorem dX11_at_18 : decode cX11_at 18 = .ok (.aload_n 0, 1) := by decide +kernel
theorem dX11_at_19 : decode cX11_at 19 = .ok (.iload_n 1, 1) := by decide +kernel
theorem dX11_at_20 : decode cX11_at 20 = .ok (.iaload, 1) := by decide +kernel
theorem dX11_at_21 : decode cX11_at 21 = .ok (.ireturn, 1) := by decide +kernel
