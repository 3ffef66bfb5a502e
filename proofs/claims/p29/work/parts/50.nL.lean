theorem dL_below_0 : decode cL_below 0 = .ok (.iload_n 0, 1) := by decide +kernel
theorem dL_below_1 : decode cL_below 1 = .ok (.ldc 7, 2) := by decide +kernel
theorem dL_below_3 : decode cL_below 3 = .ok (.iand, 1) := by decide +kernel
theorem dL_below_4 : decode cL_below 4 = .ok (.iload_n 1, 1) := by decide +kernel
theorem dL_below_5 : decode cL_below 5 = .ok (.irem, 1) := by decide +kernel
theorem dL_below_6 : decode cL_below 6 = .ok (.ireturn, 1) := by decide +kernel
theorem dL_cell_0 : decode cL_cell 0 = .ok (.iload_n 1, 1) := by decide +kernel
theorem dL_cell_1 : decode cL_cell 1 = .ok (.aload_n 0, 1) := by decide +kernel
theorem dL_cell_2 : decode cL_cell 2 = .ok (.arraylength, 1) := by decide +kernel
theorem dL_cell_3 : decode cL_cell 3 = .ok (.if_icmp .ge 9, 3) := by decide +kernel
theorem dL_cell_6 : decode cL_cell 6 = .ok (.aload_n 0, 1) := by decide +kernel
theorem dL_cell_7 : decode cL_cell 7 = .ok (.iload_n 1, 1) := by decide +kernel
theorem dL_cell_8 : decode cL_cell 8 = .ok (.iaload, 1) := by decide +kernel
theorem dL_cell_9 : decode cL_cell 9 = .ok (.goto 9, 3) := by decide +kernel
theorem dL_cell_12 : decode cL_cell 12 = .ok (.ldc 8, 2) := by decide +kernel
theorem dL_cell_14 : decode cL_cell 14 = .ok (.iload_n 1, 1) := by decide +kernel
theorem dL_cell_15 : decode cL_cell 15 = .ok (.iconst 3, 1) := by decide +kernel
theorem dL_cell_16 : decode cL_cell 16 = .ok (.iadd, 1) := by decide +kernel
theorem dL_cell_17 : decode cL_cell 17 = .ok (.imul, 1) := by decide +kernel
theorem dL_cell_18 : decode cL_cell 18 = .ok (.ireturn, 1) := by decide +kernel
theorem dL_with_0 : decode cL_with 0 = .ok (.aload_n 0, 1) := by decide +kernel
theorem dL_with_1 : decode cL_with 1 = .ok (.arraylength, 1) := by decide +kernel
theorem dL_with_2 : decode cL_with 2 = .ok (.iconst 1, 1) := by decide +kernel
theorem dL_with_3 : decode cL_with 3 = .ok (.iadd, 1) := by decide +kernel
theorem dL_with_4 : decode cL_with 4 = .ok (.newarray .int, 2) := by decide +kernel
theorem dL_with_6 : decode cL_with 6 = .ok (.astore_n 2, 1) := by decide +kernel
theorem dL_with_7 : decode cL_with 7 = .ok (.aload_n 0, 1) := by decide +kernel
theorem dL_with_8 : decode cL_with 8 = .ok (.iconst 0, 1) := by decide +kernel
theorem dL_with_9 : decode cL_with 9 = .ok (.aload_n 2, 1) := by decide +kernel
theorem dL_with_10 : decode cL_with 10 = .ok (.iconst 0, 1) := by decide +kernel
theorem dL_with_11 : decode cL_with 11 = .ok (.aload_n 0, 1) := by decide +kernel
theorem dL_with_12 : decode cL_with 12 = .ok (.arraylength, 1) := by decide +kernel
theorem dL_with_13 : decode cL_with 13 = .ok (.invokestatic 9, 3) := by decide +kernel
theorem dL_with_16 : decode cL_with 16 = .ok (.aload_n 2, 1) := by decide +kernel
theorem dL_with_17 : decode cL_with 17 = .ok (.aload_n 0, 1) := by decide +kernel
theorem dL_with_18 : decode cL_with 18 = .ok (.arraylength, 1) := by decide +kernel
theorem dL_with_19 : decode cL_with 19 = .ok (.iload_n 1, 1) := by decide +kernel
theorem dL_with_20 : decode cL_with 20 = .ok (.iastore, 1) := by decide +kernel
theorem dL_with_21 : decode cL_with 21 = .ok (.aload_n 2, 1) := by decide +kernel
theorem dL_with_22 : decode cL_with 22 = .ok (.areturn, 1) := by decide +kernel
theorem dL_fill_0 : decode cL_fill 0 = .ok (.aload_n 0, 1) := by decide +kernel
theorem dL_fill_1 : decode cL_fill 1 = .ok (.astore_n 2, 1) := by decide +kernel
theorem dL_fill_2 : decode cL_fill 2 = .ok (.aload_n 2, 1) := by decide +kernel
theorem dL_fill_3 : decode cL_fill 3 = .ok (.arraylength, 1) := by decide +kernel
theorem dL_fill_4 : decode cL_fill 4 = .ok (.iload_n 1, 1) := by decide +kernel
theorem dL_fill_5 : decode cL_fill 5 = .ok (.irem, 1) := by decide +kernel
theorem dL_fill_6 : decode cL_fill 6 = .ok (.ifCond .le 12, 3) := by decide +kernel
theorem dL_fill_9 : decode cL_fill 9 = .ok (.aload_n 2, 1) := by decide +kernel
theorem dL_fill_10 : decode cL_fill 10 = .ok (.iconst 0, 1) := by decide +kernel
theorem dL_fill_11 : decode cL_fill 11 = .ok (.invokestatic 15, 3) := by decide +kernel
theorem dL_fill_14 : decode cL_fill 14 = .ok (.astore_n 2, 1) := by decide +kernel
theorem dL_fill_15 : decode cL_fill 15 = .ok (.goto (-13), 3) := by decide +kernel
theorem dL_fill_18 : decode cL_fill 18 = .ok (.aload_n 2, 1) := by decide +kernel
theorem dL_fill_19 : decode cL_fill 19 = .ok (.areturn, 1) := by decide +kernel
theorem dL_odd_0 : decode cL_odd 0 = .ok (.iconst 0, 1) := by decide +kernel
theorem dL_odd_1 : decode cL_odd 1 = .ok (.istore_n 1, 1) := by decide +kernel
theorem dL_odd_2 : decode cL_odd 2 = .ok (.iconst 0, 1) := by decide +kernel
theorem dL_odd_3 : decode cL_odd 3 = .ok (.istore_n 2, 1) := by decide +kernel
theorem dL_odd_4 : decode cL_odd 4 = .ok (.iload_n 2, 1) := by decide +kernel
theorem dL_odd_5 : decode cL_odd 5 = .ok (.bipush 16, 2) := by decide +kernel
theorem dL_odd_7 : decode cL_odd 7 = .ok (.if_icmp .ge 17, 3) := by decide +kernel
theorem dL_odd_10 : decode cL_odd 10 = .ok (.iload_n 1, 1) := by decide +kernel
theorem dL_odd_11 : decode cL_odd 11 = .ok (.iload_n 0, 1) := by decide +kernel
theorem dL_odd_12 : decode cL_odd 12 = .ok (.iload_n 2, 1) := by decide +kernel
theorem dL_odd_13 : decode cL_odd 13 = .ok (.ishr, 1) := by decide +kernel
theorem dL_odd_14 : decode cL_odd 14 = .ok (.iconst 1, 1) := by decide +kernel
theorem dL_odd_15 : decode cL_odd 15 = .ok (.iand, 1) := by decide +kernel
theorem dL_odd_16 : decode cL_odd 16 = .ok (.ixor, 1) := by decide +kernel
theorem dL_odd_17 : decode cL_odd 17 = .ok (.istore_n 1, 1) := by decide +kernel
theorem dL_odd_18 : decode cL_odd 18 = .ok (.iinc 2 1, 3) := by decide +kernel
theorem dL_odd_21 : decode cL_odd 21 = .ok (.goto (-17), 3) := by decide +kernel
theorem dL_odd_24 : decode cL_odd 24 = .ok (.iload_n 1, 1) := by decide +kernel
theorem dL_odd_25 : decode cL_odd 25 = .ok (.ireturn, 1) := by decide +kernel
theorem dL_word_0 : decode cL_word 0 = .ok (.iconst 0, 1) := by decide +kernel
theorem dL_word_1 : decode cL_word 1 = .ok (.istore_n 2, 1) := by decide +kernel
theorem dL_word_2 : decode cL_word 2 = .ok (.iconst 0, 1) := by decide +kernel
theorem dL_word_3 : decode cL_word 3 = .ok (.istore_n 3, 1) := by decide +kernel
theorem dL_word_4 : decode cL_word 4 = .ok (.iload_n 3, 1) := by decide +kernel
theorem dL_word_5 : decode cL_word 5 = .ok (.aload_n 0, 1) := by decide +kernel
theorem dL_word_6 : decode cL_word 6 = .ok (.iconst 1, 1) := by decide +kernel
theorem dL_word_7 : decode cL_word 7 = .ok (.iaload, 1) := by decide +kernel
theorem dL_word_8 : decode cL_word 8 = .ok (.if_icmp .ge 32, 3) := by decide +kernel
theorem dL_word_11 : decode cL_word 11 = .ok (.iload_n 1, 1) := by decide +kernel
theorem dL_word_12 : decode cL_word 12 = .ok (.aload_n 0, 1) := by decide +kernel
theorem dL_word_13 : decode cL_word 13 = .ok (.iconst 1, 1) := by decide +kernel
theorem dL_word_14 : decode cL_word 14 = .ok (.iaload, 1) := by decide +kernel
theorem dL_word_15 : decode cL_word 15 = .ok (.iconst 1, 1) := by decide +kernel
theorem dL_word_16 : decode cL_word 16 = .ok (.isub, 1) := by decide +kernel
theorem dL_word_17 : decode cL_word 17 = .ok (.iload_n 3, 1) := by decide +kernel
theorem dL_word_18 : decode cL_word 18 = .ok (.isub, 1) := by decide +kernel
theorem dL_word_19 : decode cL_word 19 = .ok (.ishr, 1) := by decide +kernel
theorem dL_word_20 : decode cL_word 20 = .ok (.iconst 1, 1) := by decide +kernel
theorem dL_word_21 : decode cL_word 21 = .ok (.iand, 1) := by decide +kernel
theorem dL_word_22 : decode cL_word 22 = .ok (.iconst 1, 1) := by decide +kernel
theorem dL_word_23 : decode cL_word 23 = .ok (.if_icmp .ne 11, 3) := by decide +kernel
theorem dL_word_26 : decode cL_word 26 = .ok (.iload_n 2, 1) := by decide +kernel
theorem dL_word_27 : decode cL_word 27 = .ok (.aload_n 0, 1) := by decide +kernel
theorem dL_word_28 : decode cL_word 28 = .ok (.iconst 3, 1) := by decide +kernel
theorem dL_word_29 : decode cL_word 29 = .ok (.iload_n 3, 1) := by decide +kernel
theorem dL_word_30 : decode cL_word 30 = .ok (.iadd, 1) := by decide +kernel
theorem dL_word_31 : decode cL_word 31 = .ok (.iaload, 1) := by decide +kernel
theorem dL_word_32 : decode cL_word 32 = .ok (.ixor, 1) := by decide +kernel
theorem dL_word_33 : decode cL_word 33 = .ok (.istore_n 2, 1) := by decide +kernel
theorem dL_word_34 : decode cL_word 34 = .ok (.iinc 3 1, 3) := by decide +kernel
theorem dL_word_37 : decode cL_word 37 = .ok (.goto (-33), 3) := by decide +kernel
theorem dL_word_40 : decode cL_word 40 = .ok (.iload_n 2, 1) := by decide +kernel
theorem dL_word_41 : decode cL_word 41 = .ok (.ireturn, 1) := by decide +kernel
theorem dL_length_0 : decode cL_length 0 = .ok (.iconst 0, 1) := by decide +kernel
theorem dL_length_1 : decode cL_length 1 = .ok (.istore_n 1, 1) := by decide +kernel
theorem dL_length_2 : decode cL_length 2 = .ok (.iload_n 0, 1) := by decide +kernel
theorem dL_length_3 : decode cL_length 3 = .ok (.iload_n 1, 1) := by decide +kernel
theorem dL_length_4 : decode cL_length 4 = .ok (.iconst 1, 1) := by decide +kernel
theorem dL_length_5 : decode cL_length 5 = .ok (.iadd, 1) := by decide +kernel
theorem dL_length_6 : decode cL_length 6 = .ok (.ishr, 1) := by decide +kernel
theorem dL_length_7 : decode cL_length 7 = .ok (.ifCond .le 9, 3) := by decide +kernel
theorem dL_length_10 : decode cL_length 10 = .ok (.iinc 1 1, 3) := by decide +kernel
theorem dL_length_13 : decode cL_length 13 = .ok (.goto (-11), 3) := by decide +kernel
theorem dL_length_16 : decode cL_length 16 = .ok (.iload_n 1, 1) := by decide +kernel
theorem dL_length_17 : decode cL_length 17 = .ok (.ireturn, 1) := by decide +kernel
theorem dL_rest_0 : decode cL_rest 0 = .ok (.iload_n 3, 1) := by decide +kernel
theorem dL_rest_1 : decode cL_rest 1 = .ok (.invokestatic 21, 3) := by decide +kernel
theorem dL_rest_4 : decode cL_rest 4 = .ok (.istore 4, 2) := by decide +kernel
theorem dL_rest_6 : decode cL_rest 6 = .ok (.iconst 0, 1) := by decide +kernel
theorem dL_rest_7 : decode cL_rest 7 = .ok (.istore 5, 2) := by decide +kernel
theorem dL_rest_9 : decode cL_rest 9 = .ok (.iconst 0, 1) := by decide +kernel
theorem dL_rest_10 : decode cL_rest 10 = .ok (.istore 6, 2) := by decide +kernel
theorem dL_rest_12 : decode cL_rest 12 = .ok (.iload 6, 2) := by decide +kernel
theorem dL_rest_14 : decode cL_rest 14 = .ok (.iload_n 2, 1) := by decide +kernel
theorem dL_rest_15 : decode cL_rest 15 = .ok (.iload 4, 2) := by decide +kernel
theorem dL_rest_17 : decode cL_rest 17 = .ok (.iadd, 1) := by decide +kernel
theorem dL_rest_18 : decode cL_rest 18 = .ok (.if_icmp .ge 47, 3) := by decide +kernel
theorem dL_rest_21 : decode cL_rest 21 = .ok (.iconst 2, 1) := by decide +kernel
theorem dL_rest_22 : decode cL_rest 22 = .ok (.iload 5, 2) := by decide +kernel
theorem dL_rest_24 : decode cL_rest 24 = .ok (.imul, 1) := by decide +kernel
theorem dL_rest_25 : decode cL_rest 25 = .ok (.iload 6, 2) := by decide +kernel
theorem dL_rest_27 : decode cL_rest 27 = .ok (.iload_n 2, 1) := by decide +kernel
theorem dL_rest_28 : decode cL_rest 28 = .ok (.if_icmp .ge 12, 3) := by decide +kernel
theorem dL_rest_31 : decode cL_rest 31 = .ok (.aload_n 0, 1) := by decide +kernel
theorem dL_rest_32 : decode cL_rest 32 = .ok (.iload_n 1, 1) := by decide +kernel
theorem dL_rest_33 : decode cL_rest 33 = .ok (.iload 6, 2) := by decide +kernel
theorem dL_rest_35 : decode cL_rest 35 = .ok (.iadd, 1) := by decide +kernel
theorem dL_rest_36 : decode cL_rest 36 = .ok (.iaload, 1) := by decide +kernel
theorem dL_rest_37 : decode cL_rest 37 = .ok (.goto 4, 3) := by decide +kernel
theorem dL_rest_40 : decode cL_rest 40 = .ok (.iconst 0, 1) := by decide +kernel
theorem dL_rest_41 : decode cL_rest 41 = .ok (.iadd, 1) := by decide +kernel
theorem dL_rest_42 : decode cL_rest 42 = .ok (.istore 5, 2) := by decide +kernel
theorem dL_rest_44 : decode cL_rest 44 = .ok (.iload 5, 2) := by decide +kernel
theorem dL_rest_46 : decode cL_rest 46 = .ok (.iload 4, 2) := by decide +kernel
theorem dL_rest_48 : decode cL_rest 48 = .ok (.ishr, 1) := by decide +kernel
theorem dL_rest_49 : decode cL_rest 49 = .ok (.iconst 1, 1) := by decide +kernel
theorem dL_rest_50 : decode cL_rest 50 = .ok (.if_icmp .ne 9, 3) := by decide +kernel
theorem dL_rest_53 : decode cL_rest 53 = .ok (.iload 5, 2) := by decide +kernel
theorem dL_rest_55 : decode cL_rest 55 = .ok (.iload_n 3, 1) := by decide +kernel
theorem dL_rest_56 : decode cL_rest 56 = .ok (.ixor, 1) := by decide +kernel
theorem dL_rest_57 : decode cL_rest 57 = .ok (.istore 5, 2) := by decide +kernel
theorem dL_rest_59 : decode cL_rest 59 = .ok (.iinc 6 1, 3) := by decide +kernel
theorem dL_rest_62 : decode cL_rest 62 = .ok (.goto (-50), 3) := by decide +kernel
theorem dL_rest_65 : decode cL_rest 65 = .ok (.iload 5, 2) := by decide +kernel
theorem dL_rest_67 : decode cL_rest 67 = .ok (.ireturn, 1) := by decide +kernel
theorem dL_code_0 : decode cL_code 0 = .ok (.iconst 0, 1) := by decide +kernel
theorem dL_code_1 : decode cL_code 1 = .ok (.newarray .int, 2) := by decide +kernel
theorem dL_code_3 : decode cL_code 3 = .ok (.astore_n 2, 1) := by decide +kernel
theorem dL_code_4 : decode cL_code 4 = .ok (.aload_n 0, 1) := by decide +kernel
theorem dL_code_5 : decode cL_code 5 = .ok (.iconst 0, 1) := by decide +kernel
theorem dL_code_6 : decode cL_code 6 = .ok (.iaload, 1) := by decide +kernel
theorem dL_code_7 : decode cL_code 7 = .ok (.ifCond .ne 55, 3) := by decide +kernel
theorem dL_code_10 : decode cL_code 10 = .ok (.aload_n 1, 1) := by decide +kernel
theorem dL_code_11 : decode cL_code 11 = .ok (.astore_n 3, 1) := by decide +kernel
theorem dL_code_12 : decode cL_code 12 = .ok (.aload_n 3, 1) := by decide +kernel
theorem dL_code_13 : decode cL_code 13 = .ok (.arraylength, 1) := by decide +kernel
theorem dL_code_14 : decode cL_code 14 = .ok (.istore 4, 2) := by decide +kernel
theorem dL_code_16 : decode cL_code 16 = .ok (.iconst 0, 1) := by decide +kernel
theorem dL_code_17 : decode cL_code 17 = .ok (.istore 5, 2) := by decide +kernel
theorem dL_code_19 : decode cL_code 19 = .ok (.iload 5, 2) := by decide +kernel
theorem dL_code_21 : decode cL_code 21 = .ok (.iload 4, 2) := by decide +kernel
theorem dL_code_23 : decode cL_code 23 = .ok (.if_icmp .ge 39, 3) := by decide +kernel
theorem dL_code_26 : decode cL_code 26 = .ok (.aload_n 3, 1) := by decide +kernel
theorem dL_code_27 : decode cL_code 27 = .ok (.iload 5, 2) := by decide +kernel
theorem dL_code_29 : decode cL_code 29 = .ok (.iaload, 1) := by decide +kernel
theorem dL_code_30 : decode cL_code 30 = .ok (.istore 6, 2) := by decide +kernel
theorem dL_code_32 : decode cL_code 32 = .ok (.iconst 0, 1) := by decide +kernel
theorem dL_code_33 : decode cL_code 33 = .ok (.istore 7, 2) := by decide +kernel
theorem dL_code_35 : decode cL_code 35 = .ok (.iload 7, 2) := by decide +kernel
theorem dL_code_37 : decode cL_code 37 = .ok (.aload_n 0, 1) := by decide +kernel
theorem dL_code_38 : decode cL_code 38 = .ok (.iconst 1, 1) := by decide +kernel
theorem dL_code_39 : decode cL_code 39 = .ok (.iaload, 1) := by decide +kernel
theorem dL_code_40 : decode cL_code 40 = .ok (.if_icmp .ge 16, 3) := by decide +kernel
theorem dL_code_43 : decode cL_code 43 = .ok (.aload_n 2, 1) := by decide +kernel
theorem dL_code_44 : decode cL_code 44 = .ok (.iload 6, 2) := by decide +kernel
theorem dL_code_46 : decode cL_code 46 = .ok (.invokestatic 15, 3) := by decide +kernel
theorem dL_code_49 : decode cL_code 49 = .ok (.astore_n 2, 1) := by decide +kernel
theorem dL_code_50 : decode cL_code 50 = .ok (.iinc 7 1, 3) := by decide +kernel
theorem dL_code_53 : decode cL_code 53 = .ok (.goto (-18), 3) := by decide +kernel
theorem dL_code_56 : decode cL_code 56 = .ok (.iinc 5 1, 3) := by decide +kernel
theorem dL_code_59 : decode cL_code 59 = .ok (.goto (-40), 3) := by decide +kernel
theorem dL_code_62 : decode cL_code 62 = .ok (.aload_n 0, 1) := by decide +kernel
theorem dL_code_63 : decode cL_code 63 = .ok (.iconst 0, 1) := by decide +kernel
theorem dL_code_64 : decode cL_code 64 = .ok (.iaload, 1) := by decide +kernel
theorem dL_code_65 : decode cL_code 65 = .ok (.iconst 1, 1) := by decide +kernel
theorem dL_code_66 : decode cL_code 66 = .ok (.if_icmp .ne 100, 3) := by decide +kernel
theorem dL_code_69 : decode cL_code 69 = .ok (.aload_n 1, 1) := by decide +kernel
theorem dL_code_70 : decode cL_code 70 = .ok (.aload_n 0, 1) := by decide +kernel
theorem dL_code_71 : decode cL_code 71 = .ok (.iconst 1, 1) := by decide +kernel
theorem dL_code_72 : decode cL_code 72 = .ok (.iaload, 1) := by decide +kernel
theorem dL_code_73 : decode cL_code 73 = .ok (.invokestatic 25, 3) := by decide +kernel
theorem dL_code_76 : decode cL_code 76 = .ok (.astore_n 3, 1) := by decide +kernel
theorem dL_code_77 : decode cL_code 77 = .ok (.iconst 0, 1) := by decide +kernel
theorem dL_code_78 : decode cL_code 78 = .ok (.istore 4, 2) := by decide +kernel
theorem dL_code_80 : decode cL_code 80 = .ok (.iload 4, 2) := by decide +kernel
theorem dL_code_82 : decode cL_code 82 = .ok (.aload_n 3, 1) := by decide +kernel
theorem dL_code_83 : decode cL_code 83 = .ok (.arraylength, 1) := by decide +kernel
theorem dL_code_84 : decode cL_code 84 = .ok (.if_icmp .ge 82, 3) := by decide +kernel
theorem dL_code_87 : decode cL_code 87 = .ok (.iconst 0, 1) := by decide +kernel
theorem dL_code_88 : decode cL_code 88 = .ok (.istore 5, 2) := by decide +kernel
theorem dL_code_90 : decode cL_code 90 = .ok (.iconst 0, 1) := by decide +kernel
theorem dL_code_91 : decode cL_code 91 = .ok (.istore 6, 2) := by decide +kernel
theorem dL_code_93 : decode cL_code 93 = .ok (.iload 6, 2) := by decide +kernel
theorem dL_code_95 : decode cL_code 95 = .ok (.aload_n 0, 1) := by decide +kernel
theorem dL_code_96 : decode cL_code 96 = .ok (.iconst 1, 1) := by decide +kernel
theorem dL_code_97 : decode cL_code 97 = .ok (.iaload, 1) := by decide +kernel
theorem dL_code_98 : decode cL_code 98 = .ok (.if_icmp .ge 23, 3) := by decide +kernel
theorem dL_code_101 : decode cL_code 101 = .ok (.iconst 2, 1) := by decide +kernel
theorem dL_code_102 : decode cL_code 102 = .ok (.iload 5, 2) := by decide +kernel
theorem dL_code_104 : decode cL_code 104 = .ok (.imul, 1) := by decide +kernel
theorem dL_code_105 : decode cL_code 105 = .ok (.aload_n 3, 1) := by decide +kernel
theorem dL_code_106 : decode cL_code 106 = .ok (.iload 4, 2) := by decide +kernel
theorem dL_code_108 : decode cL_code 108 = .ok (.iload 6, 2) := by decide +kernel
theorem dL_code_110 : decode cL_code 110 = .ok (.iadd, 1) := by decide +kernel
theorem dL_code_111 : decode cL_code 111 = .ok (.iaload, 1) := by decide +kernel
theorem dL_code_112 : decode cL_code 112 = .ok (.iadd, 1) := by decide +kernel
theorem dL_code_113 : decode cL_code 113 = .ok (.istore 5, 2) := by decide +kernel
theorem dL_code_115 : decode cL_code 115 = .ok (.iinc 6 1, 3) := by decide +kernel
theorem dL_code_118 : decode cL_code 118 = .ok (.goto (-25), 3) := by decide +kernel
theorem dL_code_121 : decode cL_code 121 = .ok (.aload_n 0, 1) := by decide +kernel
theorem dL_code_122 : decode cL_code 122 = .ok (.iconst 2, 1) := by decide +kernel
theorem dL_code_123 : decode cL_code 123 = .ok (.iaload, 1) := by decide +kernel
theorem dL_code_124 : decode cL_code 124 = .ok (.iconst 1, 1) := by decide +kernel
theorem dL_code_125 : decode cL_code 125 = .ok (.isub, 1) := by decide +kernel
theorem dL_code_126 : decode cL_code 126 = .ok (.istore 6, 2) := by decide +kernel
theorem dL_code_128 : decode cL_code 128 = .ok (.iload 6, 2) := by decide +kernel
theorem dL_code_130 : decode cL_code 130 = .ok (.ifCond .lt 25, 3) := by decide +kernel
theorem dL_code_133 : decode cL_code 133 = .ok (.aload_n 2, 1) := by decide +kernel
theorem dL_code_134 : decode cL_code 134 = .ok (.aload_n 0, 1) := by decide +kernel
theorem dL_code_135 : decode cL_code 135 = .ok (.iload 5, 2) := by decide +kernel
theorem dL_code_137 : decode cL_code 137 = .ok (.invokestatic 28, 3) := by decide +kernel
theorem dL_code_140 : decode cL_code 140 = .ok (.iload 6, 2) := by decide +kernel
theorem dL_code_142 : decode cL_code 142 = .ok (.ishr, 1) := by decide +kernel
theorem dL_code_143 : decode cL_code 143 = .ok (.iconst 1, 1) := by decide +kernel
theorem dL_code_144 : decode cL_code 144 = .ok (.iand, 1) := by decide +kernel
theorem dL_code_145 : decode cL_code 145 = .ok (.invokestatic 15, 3) := by decide +kernel
theorem dL_code_148 : decode cL_code 148 = .ok (.astore_n 2, 1) := by decide +kernel
theorem dL_code_149 : decode cL_code 149 = .ok (.iinc 6 (-1), 3) := by decide +kernel
theorem dL_code_152 : decode cL_code 152 = .ok (.goto (-24), 3) := by decide +kernel
theorem dL_code_155 : decode cL_code 155 = .ok (.iload 4, 2) := by decide +kernel
theorem dL_code_157 : decode cL_code 157 = .ok (.aload_n 0, 1) := by decide +kernel
theorem dL_code_158 : decode cL_code 158 = .ok (.iconst 1, 1) := by decide +kernel
theorem dL_code_159 : decode cL_code 159 = .ok (.iaload, 1) := by decide +kernel
theorem dL_code_160 : decode cL_code 160 = .ok (.iadd, 1) := by decide +kernel
theorem dL_code_161 : decode cL_code 161 = .ok (.istore 4, 2) := by decide +kernel
theorem dL_code_163 : decode cL_code 163 = .ok (.goto (-83), 3) := by decide +kernel
theorem dL_code_166 : decode cL_code 166 = .ok (.aload_n 0, 1) := by decide +kernel
theorem dL_code_167 : decode cL_code 167 = .ok (.iconst 0, 1) := by decide +kernel
theorem dL_code_168 : decode cL_code 168 = .ok (.iaload, 1) := by decide +kernel
theorem dL_code_169 : decode cL_code 169 = .ok (.iconst 2, 1) := by decide +kernel
theorem dL_code_170 : decode cL_code 170 = .ok (.if_icmp .ne 108, 3) := by decide +kernel
theorem dL_code_173 : decode cL_code 173 = .ok (.aload_n 1, 1) := by decide +kernel
theorem dL_code_174 : decode cL_code 174 = .ok (.aload_n 0, 1) := by decide +kernel
theorem dL_code_175 : decode cL_code 175 = .ok (.iconst 2, 1) := by decide +kernel
theorem dL_code_176 : decode cL_code 176 = .ok (.iaload, 1) := by decide +kernel
theorem dL_code_177 : decode cL_code 177 = .ok (.invokestatic 25, 3) := by decide +kernel
theorem dL_code_180 : decode cL_code 180 = .ok (.astore_n 3, 1) := by decide +kernel
theorem dL_code_181 : decode cL_code 181 = .ok (.iconst 0, 1) := by decide +kernel
theorem dL_code_182 : decode cL_code 182 = .ok (.istore 4, 2) := by decide +kernel
theorem dL_code_184 : decode cL_code 184 = .ok (.iload 4, 2) := by decide +kernel
theorem dL_code_186 : decode cL_code 186 = .ok (.aload_n 3, 1) := by decide +kernel
theorem dL_code_187 : decode cL_code 187 = .ok (.arraylength, 1) := by decide +kernel
theorem dL_code_188 : decode cL_code 188 = .ok (.if_icmp .ge 90, 3) := by decide +kernel
theorem dL_code_191 : decode cL_code 191 = .ok (.iconst 0, 1) := by decide +kernel
theorem dL_code_192 : decode cL_code 192 = .ok (.istore 5, 2) := by decide +kernel
theorem dL_code_194 : decode cL_code 194 = .ok (.iload 5, 2) := by decide +kernel
theorem dL_code_196 : decode cL_code 196 = .ok (.aload_n 0, 1) := by decide +kernel
theorem dL_code_197 : decode cL_code 197 = .ok (.iconst 2, 1) := by decide +kernel
theorem dL_code_198 : decode cL_code 198 = .ok (.iaload, 1) := by decide +kernel
theorem dL_code_199 : decode cL_code 199 = .ok (.if_icmp .ge 21, 3) := by decide +kernel
theorem dL_code_202 : decode cL_code 202 = .ok (.aload_n 2, 1) := by decide +kernel
theorem dL_code_203 : decode cL_code 203 = .ok (.aload_n 3, 1) := by decide +kernel
theorem dL_code_204 : decode cL_code 204 = .ok (.iload 4, 2) := by decide +kernel
theorem dL_code_206 : decode cL_code 206 = .ok (.iload 5, 2) := by decide +kernel
theorem dL_code_208 : decode cL_code 208 = .ok (.iadd, 1) := by decide +kernel
theorem dL_code_209 : decode cL_code 209 = .ok (.iaload, 1) := by decide +kernel
theorem dL_code_210 : decode cL_code 210 = .ok (.invokestatic 15, 3) := by decide +kernel
theorem dL_code_213 : decode cL_code 213 = .ok (.astore_n 2, 1) := by decide +kernel
theorem dL_code_214 : decode cL_code 214 = .ok (.iinc 5 1, 3) := by decide +kernel
theorem dL_code_217 : decode cL_code 217 = .ok (.goto (-23), 3) := by decide +kernel
theorem dL_code_220 : decode cL_code 220 = .ok (.aload_n 3, 1) := by decide +kernel
theorem dL_code_221 : decode cL_code 221 = .ok (.iload 4, 2) := by decide +kernel
theorem dL_code_223 : decode cL_code 223 = .ok (.aload_n 0, 1) := by decide +kernel
theorem dL_code_224 : decode cL_code 224 = .ok (.iconst 2, 1) := by decide +kernel
theorem dL_code_225 : decode cL_code 225 = .ok (.iaload, 1) := by decide +kernel
theorem dL_code_226 : decode cL_code 226 = .ok (.aload_n 0, 1) := by decide +kernel
theorem dL_code_227 : decode cL_code 227 = .ok (.iconst 1, 1) := by decide +kernel
theorem dL_code_228 : decode cL_code 228 = .ok (.iaload, 1) := by decide +kernel
theorem dL_code_229 : decode cL_code 229 = .ok (.invokestatic 32, 3) := by decide +kernel
theorem dL_code_232 : decode cL_code 232 = .ok (.istore 5, 2) := by decide +kernel
theorem dL_code_234 : decode cL_code 234 = .ok (.aload_n 0, 1) := by decide +kernel
theorem dL_code_235 : decode cL_code 235 = .ok (.iconst 1, 1) := by decide +kernel
theorem dL_code_236 : decode cL_code 236 = .ok (.iaload, 1) := by decide +kernel
theorem dL_code_237 : decode cL_code 237 = .ok (.invokestatic 21, 3) := by decide +kernel
theorem dL_code_240 : decode cL_code 240 = .ok (.iconst 1, 1) := by decide +kernel
theorem dL_code_241 : decode cL_code 241 = .ok (.isub, 1) := by decide +kernel
theorem dL_code_242 : decode cL_code 242 = .ok (.istore 6, 2) := by decide +kernel
theorem dL_code_244 : decode cL_code 244 = .ok (.iload 6, 2) := by decide +kernel
theorem dL_code_246 : decode cL_code 246 = .ok (.ifCond .lt 21, 3) := by decide +kernel
theorem dL_code_249 : decode cL_code 249 = .ok (.aload_n 2, 1) := by decide +kernel
theorem dL_code_250 : decode cL_code 250 = .ok (.iload 5, 2) := by decide +kernel
theorem dL_code_252 : decode cL_code 252 = .ok (.iload 6, 2) := by decide +kernel
theorem dL_code_254 : decode cL_code 254 = .ok (.ishr, 1) := by decide +kernel
theorem dL_code_255 : decode cL_code 255 = .ok (.iconst 1, 1) := by decide +kernel
theorem dL_code_256 : decode cL_code 256 = .ok (.iand, 1) := by decide +kernel
theorem dL_code_257 : decode cL_code 257 = .ok (.invokestatic 15, 3) := by decide +kernel
theorem dL_code_260 : decode cL_code 260 = .ok (.astore_n 2, 1) := by decide +kernel
theorem dL_code_261 : decode cL_code 261 = .ok (.iinc 6 (-1), 3) := by decide +kernel
theorem dL_code_264 : decode cL_code 264 = .ok (.goto (-20), 3) := by decide +kernel
theorem dL_code_267 : decode cL_code 267 = .ok (.iload 4, 2) := by decide +kernel
theorem dL_code_269 : decode cL_code 269 = .ok (.aload_n 0, 1) := by decide +kernel
theorem dL_code_270 : decode cL_code 270 = .ok (.iconst 2, 1) := by decide +kernel
theorem dL_code_271 : decode cL_code 271 = .ok (.iaload, 1) := by decide +kernel
theorem dL_code_272 : decode cL_code 272 = .ok (.iadd, 1) := by decide +kernel
theorem dL_code_273 : decode cL_code 273 = .ok (.istore 4, 2) := by decide +kernel
theorem dL_code_275 : decode cL_code 275 = .ok (.goto (-91), 3) := by decide +kernel
theorem dL_code_278 : decode cL_code 278 = .ok (.aload_n 0, 1) := by decide +kernel
theorem dL_code_279 : decode cL_code 279 = .ok (.iconst 0, 1) := by decide +kernel
theorem dL_code_280 : decode cL_code 280 = .ok (.iaload, 1) := by decide +kernel
theorem dL_code_281 : decode cL_code 281 = .ok (.iconst 3, 1) := by decide +kernel
theorem dL_code_282 : decode cL_code 282 = .ok (.if_icmp .ne 134, 3) := by decide +kernel
theorem dL_code_285 : decode cL_code 285 = .ok (.aload_n 1, 1) := by decide +kernel
theorem dL_code_286 : decode cL_code 286 = .ok (.arraylength, 1) := by decide +kernel
theorem dL_code_287 : decode cL_code 287 = .ok (.ifCond .le 129, 3) := by decide +kernel
theorem dL_code_290 : decode cL_code 290 = .ok (.aload_n 0, 1) := by decide +kernel
theorem dL_code_291 : decode cL_code 291 = .ok (.iconst 5, 1) := by decide +kernel
theorem dL_code_292 : decode cL_code 292 = .ok (.iaload, 1) := by decide +kernel
theorem dL_code_293 : decode cL_code 293 = .ok (.ifCond .ne 7, 3) := by decide +kernel
theorem dL_code_296 : decode cL_code 296 = .ok (.iconst 2, 1) := by decide +kernel
theorem dL_code_297 : decode cL_code 297 = .ok (.goto 4, 3) := by decide +kernel
theorem dL_code_300 : decode cL_code 300 = .ok (.iconst 3, 1) := by decide +kernel
theorem dL_code_301 : decode cL_code 301 = .ok (.istore_n 3, 1) := by decide +kernel
theorem dL_code_302 : decode cL_code 302 = .ok (.iconst 0, 1) := by decide +kernel
theorem dL_code_303 : decode cL_code 303 = .ok (.istore 4, 2) := by decide +kernel
theorem dL_code_305 : decode cL_code 305 = .ok (.iload 4, 2) := by decide +kernel
theorem dL_code_307 : decode cL_code 307 = .ok (.aload_n 1, 1) := by decide +kernel
theorem dL_code_308 : decode cL_code 308 = .ok (.arraylength, 1) := by decide +kernel
theorem dL_code_309 : decode cL_code 309 = .ok (.aload_n 0, 1) := by decide +kernel
theorem dL_code_310 : decode cL_code 310 = .ok (.iconst 1, 1) := by decide +kernel
theorem dL_code_311 : decode cL_code 311 = .ok (.iaload, 1) := by decide +kernel
theorem dL_code_312 : decode cL_code 312 = .ok (.iadd, 1) := by decide +kernel
theorem dL_code_313 : decode cL_code 313 = .ok (.if_icmp .ge 103, 3) := by decide +kernel
theorem dL_code_316 : decode cL_code 316 = .ok (.iconst 0, 1) := by decide +kernel
theorem dL_code_317 : decode cL_code 317 = .ok (.istore 5, 2) := by decide +kernel
theorem dL_code_319 : decode cL_code 319 = .ok (.iconst 0, 1) := by decide +kernel
theorem dL_code_320 : decode cL_code 320 = .ok (.istore 6, 2) := by decide +kernel
theorem dL_code_322 : decode cL_code 322 = .ok (.iload 6, 2) := by decide +kernel
theorem dL_code_324 : decode cL_code 324 = .ok (.aload_n 0, 1) := by decide +kernel
theorem dL_code_325 : decode cL_code 325 = .ok (.iconst 1, 1) := by decide +kernel
theorem dL_code_326 : decode cL_code 326 = .ok (.iaload, 1) := by decide +kernel
theorem dL_code_327 : decode cL_code 327 = .ok (.if_icmp .gt 51, 3) := by decide +kernel
theorem dL_code_330 : decode cL_code 330 = .ok (.iload 4, 2) := by decide +kernel
theorem dL_code_332 : decode cL_code 332 = .ok (.iload 6, 2) := by decide +kernel
theorem dL_code_334 : decode cL_code 334 = .ok (.isub, 1) := by decide +kernel
theorem dL_code_335 : decode cL_code 335 = .ok (.ifCond .lt 37, 3) := by decide +kernel
theorem dL_code_338 : decode cL_code 338 = .ok (.iload 4, 2) := by decide +kernel
theorem dL_code_340 : decode cL_code 340 = .ok (.iload 6, 2) := by decide +kernel
theorem dL_code_342 : decode cL_code 342 = .ok (.isub, 1) := by decide +kernel
theorem dL_code_343 : decode cL_code 343 = .ok (.aload_n 1, 1) := by decide +kernel
theorem dL_code_344 : decode cL_code 344 = .ok (.arraylength, 1) := by decide +kernel
theorem dL_code_345 : decode cL_code 345 = .ok (.if_icmp .ge 27, 3) := by decide +kernel
theorem dL_code_348 : decode cL_code 348 = .ok (.aload_n 1, 1) := by decide +kernel
theorem dL_code_349 : decode cL_code 349 = .ok (.iload 4, 2) := by decide +kernel
theorem dL_code_351 : decode cL_code 351 = .ok (.iload 6, 2) := by decide +kernel
theorem dL_code_353 : decode cL_code 353 = .ok (.isub, 1) := by decide +kernel
theorem dL_code_354 : decode cL_code 354 = .ok (.iaload, 1) := by decide +kernel
theorem dL_code_355 : decode cL_code 355 = .ok (.iconst 1, 1) := by decide +kernel
theorem dL_code_356 : decode cL_code 356 = .ok (.if_icmp .ne 16, 3) := by decide +kernel
theorem dL_code_359 : decode cL_code 359 = .ok (.iload 5, 2) := by decide +kernel
theorem dL_code_361 : decode cL_code 361 = .ok (.iconst 1, 1) := by decide +kernel
theorem dL_code_362 : decode cL_code 362 = .ok (.aload_n 0, 1) := by decide +kernel
theorem dL_code_363 : decode cL_code 363 = .ok (.iconst 1, 1) := by decide +kernel
theorem dL_code_364 : decode cL_code 364 = .ok (.iaload, 1) := by decide +kernel
theorem dL_code_365 : decode cL_code 365 = .ok (.iload 6, 2) := by decide +kernel
theorem dL_code_367 : decode cL_code 367 = .ok (.isub, 1) := by decide +kernel
theorem dL_code_368 : decode cL_code 368 = .ok (.ishl, 1) := by decide +kernel
theorem dL_code_369 : decode cL_code 369 = .ok (.ior, 1) := by decide +kernel
theorem dL_code_370 : decode cL_code 370 = .ok (.istore 5, 2) := by decide +kernel
theorem dL_code_372 : decode cL_code 372 = .ok (.iinc 6 1, 3) := by decide +kernel
theorem dL_code_375 : decode cL_code 375 = .ok (.goto (-53), 3) := by decide +kernel
theorem dL_code_378 : decode cL_code 378 = .ok (.iconst 0, 1) := by decide +kernel
theorem dL_code_379 : decode cL_code 379 = .ok (.istore 6, 2) := by decide +kernel
theorem dL_code_381 : decode cL_code 381 = .ok (.iload 6, 2) := by decide +kernel
theorem dL_code_383 : decode cL_code 383 = .ok (.iload_n 3, 1) := by decide +kernel
theorem dL_code_384 : decode cL_code 384 = .ok (.if_icmp .ge 26, 3) := by decide +kernel
theorem dL_code_387 : decode cL_code 387 = .ok (.aload_n 2, 1) := by decide +kernel
theorem dL_code_388 : decode cL_code 388 = .ok (.iload 5, 2) := by decide +kernel
theorem dL_code_390 : decode cL_code 390 = .ok (.aload_n 0, 1) := by decide +kernel
theorem dL_code_391 : decode cL_code 391 = .ok (.iconst 3, 1) := by decide +kernel
theorem dL_code_392 : decode cL_code 392 = .ok (.iload 6, 2) := by decide +kernel
theorem dL_code_394 : decode cL_code 394 = .ok (.iadd, 1) := by decide +kernel
theorem dL_code_395 : decode cL_code 395 = .ok (.iaload, 1) := by decide +kernel
theorem dL_code_396 : decode cL_code 396 = .ok (.iand, 1) := by decide +kernel
theorem dL_code_397 : decode cL_code 397 = .ok (.invokestatic 36, 3) := by decide +kernel
theorem dL_code_400 : decode cL_code 400 = .ok (.invokestatic 15, 3) := by decide +kernel
theorem dL_code_403 : decode cL_code 403 = .ok (.astore_n 2, 1) := by decide +kernel
theorem dL_code_404 : decode cL_code 404 = .ok (.iinc 6 1, 3) := by decide +kernel
theorem dL_code_407 : decode cL_code 407 = .ok (.goto (-26), 3) := by decide +kernel
theorem dL_code_410 : decode cL_code 410 = .ok (.iinc 4 1, 3) := by decide +kernel
theorem dL_code_413 : decode cL_code 413 = .ok (.goto (-108), 3) := by decide +kernel
theorem dL_code_416 : decode cL_code 416 = .ok (.aload_n 0, 1) := by decide +kernel
theorem dL_code_417 : decode cL_code 417 = .ok (.iconst 0, 1) := by decide +kernel
theorem dL_code_418 : decode cL_code 418 = .ok (.iaload, 1) := by decide +kernel
theorem dL_code_419 : decode cL_code 419 = .ok (.iconst 4, 1) := by decide +kernel
theorem dL_code_420 : decode cL_code 420 = .ok (.if_icmp .ne 93, 3) := by decide +kernel
theorem dL_code_423 : decode cL_code 423 = .ok (.aload_n 1, 1) := by decide +kernel
theorem dL_code_424 : decode cL_code 424 = .ok (.aload_n 0, 1) := by decide +kernel
theorem dL_code_425 : decode cL_code 425 = .ok (.iconst 1, 1) := by decide +kernel
theorem dL_code_426 : decode cL_code 426 = .ok (.iaload, 1) := by decide +kernel
theorem dL_code_427 : decode cL_code 427 = .ok (.aload_n 0, 1) := by decide +kernel
theorem dL_code_428 : decode cL_code 428 = .ok (.iconst 2, 1) := by decide +kernel
theorem dL_code_429 : decode cL_code 429 = .ok (.iaload, 1) := by decide +kernel
theorem dL_code_430 : decode cL_code 430 = .ok (.imul, 1) := by decide +kernel
theorem dL_code_431 : decode cL_code 431 = .ok (.invokestatic 25, 3) := by decide +kernel
theorem dL_code_434 : decode cL_code 434 = .ok (.astore_n 3, 1) := by decide +kernel
theorem dL_code_435 : decode cL_code 435 = .ok (.iconst 0, 1) := by decide +kernel
theorem dL_code_436 : decode cL_code 436 = .ok (.istore 4, 2) := by decide +kernel
theorem dL_code_438 : decode cL_code 438 = .ok (.iload 4, 2) := by decide +kernel
theorem dL_code_440 : decode cL_code 440 = .ok (.aload_n 3, 1) := by decide +kernel
theorem dL_code_441 : decode cL_code 441 = .ok (.arraylength, 1) := by decide +kernel
theorem dL_code_442 : decode cL_code 442 = .ok (.if_icmp .ge 71, 3) := by decide +kernel
theorem dL_code_445 : decode cL_code 445 = .ok (.iconst 0, 1) := by decide +kernel
theorem dL_code_446 : decode cL_code 446 = .ok (.istore 5, 2) := by decide +kernel
theorem dL_code_448 : decode cL_code 448 = .ok (.iload 5, 2) := by decide +kernel
theorem dL_code_450 : decode cL_code 450 = .ok (.aload_n 0, 1) := by decide +kernel
theorem dL_code_451 : decode cL_code 451 = .ok (.iconst 2, 1) := by decide +kernel
theorem dL_code_452 : decode cL_code 452 = .ok (.iaload, 1) := by decide +kernel
theorem dL_code_453 : decode cL_code 453 = .ok (.if_icmp .ge 45, 3) := by decide +kernel
theorem dL_code_456 : decode cL_code 456 = .ok (.iconst 0, 1) := by decide +kernel
theorem dL_code_457 : decode cL_code 457 = .ok (.istore 6, 2) := by decide +kernel
theorem dL_code_459 : decode cL_code 459 = .ok (.iload 6, 2) := by decide +kernel
theorem dL_code_461 : decode cL_code 461 = .ok (.aload_n 0, 1) := by decide +kernel
theorem dL_code_462 : decode cL_code 462 = .ok (.iconst 1, 1) := by decide +kernel
theorem dL_code_463 : decode cL_code 463 = .ok (.iaload, 1) := by decide +kernel
theorem dL_code_464 : decode cL_code 464 = .ok (.if_icmp .ge 28, 3) := by decide +kernel
theorem dL_code_467 : decode cL_code 467 = .ok (.aload_n 2, 1) := by decide +kernel
theorem dL_code_468 : decode cL_code 468 = .ok (.aload_n 3, 1) := by decide +kernel
theorem dL_code_469 : decode cL_code 469 = .ok (.iload 4, 2) := by decide +kernel
theorem dL_code_471 : decode cL_code 471 = .ok (.iload 6, 2) := by decide +kernel
theorem dL_code_473 : decode cL_code 473 = .ok (.aload_n 0, 1) := by decide +kernel
theorem dL_code_474 : decode cL_code 474 = .ok (.iconst 2, 1) := by decide +kernel
theorem dL_code_475 : decode cL_code 475 = .ok (.iaload, 1) := by decide +kernel
theorem dL_code_476 : decode cL_code 476 = .ok (.imul, 1) := by decide +kernel
theorem dL_code_477 : decode cL_code 477 = .ok (.iadd, 1) := by decide +kernel
theorem dL_code_478 : decode cL_code 478 = .ok (.iload 5, 2) := by decide +kernel
theorem dL_code_480 : decode cL_code 480 = .ok (.iadd, 1) := by decide +kernel
theorem dL_code_481 : decode cL_code 481 = .ok (.iaload, 1) := by decide +kernel
theorem dL_code_482 : decode cL_code 482 = .ok (.invokestatic 15, 3) := by decide +kernel
theorem dL_code_485 : decode cL_code 485 = .ok (.astore_n 2, 1) := by decide +kernel
theorem dL_code_486 : decode cL_code 486 = .ok (.iinc 6 1, 3) := by decide +kernel
theorem dL_code_489 : decode cL_code 489 = .ok (.goto (-30), 3) := by decide +kernel
theorem dL_code_492 : decode cL_code 492 = .ok (.iinc 5 1, 3) := by decide +kernel
theorem dL_code_495 : decode cL_code 495 = .ok (.goto (-47), 3) := by decide +kernel
theorem dL_code_498 : decode cL_code 498 = .ok (.iload 4, 2) := by decide +kernel
theorem dL_code_500 : decode cL_code 500 = .ok (.aload_n 0, 1) := by decide +kernel
theorem dL_code_501 : decode cL_code 501 = .ok (.iconst 1, 1) := by decide +kernel
theorem dL_code_502 : decode cL_code 502 = .ok (.iaload, 1) := by decide +kernel
theorem dL_code_503 : decode cL_code 503 = .ok (.aload_n 0, 1) := by decide +kernel
theorem dL_code_504 : decode cL_code 504 = .ok (.iconst 2, 1) := by decide +kernel
theorem dL_code_505 : decode cL_code 505 = .ok (.iaload, 1) := by decide +kernel
theorem dL_code_506 : decode cL_code 506 = .ok (.imul, 1) := by decide +kernel
theorem dL_code_507 : decode cL_code 507 = .ok (.iadd, 1) := by decide +kernel
theorem dL_code_508 : decode cL_code 508 = .ok (.istore 4, 2) := by decide +kernel
theorem dL_code_510 : decode cL_code 510 = .ok (.goto (-72), 3) := by decide +kernel
theorem dL_code_513 : decode cL_code 513 = .ok (.aload_n 2, 1) := by decide +kernel
theorem dL_code_514 : decode cL_code 514 = .ok (.areturn, 1) := by decide +kernel
theorem dL_bits_0 : decode cL_bits 0 = .ok (.iload_n 1, 1) := by decide +kernel
theorem dL_bits_1 : decode cL_bits 1 = .ok (.newarray .int, 2) := by decide +kernel
theorem dL_bits_3 : decode cL_bits 3 = .ok (.astore_n 2, 1) := by decide +kernel
theorem dL_bits_4 : decode cL_bits 4 = .ok (.iconst 0, 1) := by decide +kernel
theorem dL_bits_5 : decode cL_bits 5 = .ok (.istore_n 3, 1) := by decide +kernel
theorem dL_bits_6 : decode cL_bits 6 = .ok (.iload_n 3, 1) := by decide +kernel
theorem dL_bits_7 : decode cL_bits 7 = .ok (.iload_n 1, 1) := by decide +kernel
theorem dL_bits_8 : decode cL_bits 8 = .ok (.if_icmp .ge 21, 3) := by decide +kernel
theorem dL_bits_11 : decode cL_bits 11 = .ok (.aload_n 2, 1) := by decide +kernel
theorem dL_bits_12 : decode cL_bits 12 = .ok (.iload_n 3, 1) := by decide +kernel
theorem dL_bits_13 : decode cL_bits 13 = .ok (.iload_n 0, 1) := by decide +kernel
theorem dL_bits_14 : decode cL_bits 14 = .ok (.iload_n 1, 1) := by decide +kernel
theorem dL_bits_15 : decode cL_bits 15 = .ok (.iconst 1, 1) := by decide +kernel
theorem dL_bits_16 : decode cL_bits 16 = .ok (.isub, 1) := by decide +kernel
theorem dL_bits_17 : decode cL_bits 17 = .ok (.iload_n 3, 1) := by decide +kernel
theorem dL_bits_18 : decode cL_bits 18 = .ok (.isub, 1) := by decide +kernel
theorem dL_bits_19 : decode cL_bits 19 = .ok (.ishr, 1) := by decide +kernel
theorem dL_bits_20 : decode cL_bits 20 = .ok (.iconst 1, 1) := by decide +kernel
theorem dL_bits_21 : decode cL_bits 21 = .ok (.iand, 1) := by decide +kernel
theorem dL_bits_22 : decode cL_bits 22 = .ok (.iastore, 1) := by decide +kernel
theorem dL_bits_23 : decode cL_bits 23 = .ok (.iinc 3 1, 3) := by decide +kernel
theorem dL_bits_26 : decode cL_bits 26 = .ok (.goto (-20), 3) := by decide +kernel
theorem dL_bits_29 : decode cL_bits 29 = .ok (.aload_n 2, 1) := by decide +kernel
theorem dL_bits_30 : decode cL_bits 30 = .ok (.areturn, 1) := by decide +kernel
theorem dL_stage_0 : decode cL_stage 0 = .ok (.iload_n 0, 1) := by decide +kernel
theorem dL_stage_1 : decode cL_stage 1 = .ok (.iconst 5, 1) := by decide +kernel
theorem dL_stage_2 : decode cL_stage 2 = .ok (.invokestatic 56, 3) := by decide +kernel
theorem dL_stage_5 : decode cL_stage 5 = .ok (.istore_n 1, 1) := by decide +kernel
theorem dL_stage_6 : decode cL_stage 6 = .ok (.bipush 7, 2) := by decide +kernel
theorem dL_stage_8 : decode cL_stage 8 = .ok (.newarray .int, 2) := by decide +kernel
theorem dL_stage_10 : decode cL_stage 10 = .ok (.dup, 1) := by decide +kernel
theorem dL_stage_11 : decode cL_stage 11 = .ok (.iconst 0, 1) := by decide +kernel
theorem dL_stage_12 : decode cL_stage 12 = .ok (.iload_n 1, 1) := by decide +kernel
theorem dL_stage_13 : decode cL_stage 13 = .ok (.iastore, 1) := by decide +kernel
theorem dL_stage_14 : decode cL_stage 14 = .ok (.dup, 1) := by decide +kernel
theorem dL_stage_15 : decode cL_stage 15 = .ok (.iconst 1, 1) := by decide +kernel
theorem dL_stage_16 : decode cL_stage 16 = .ok (.iconst 0, 1) := by decide +kernel
theorem dL_stage_17 : decode cL_stage 17 = .ok (.iastore, 1) := by decide +kernel
theorem dL_stage_18 : decode cL_stage 18 = .ok (.dup, 1) := by decide +kernel
theorem dL_stage_19 : decode cL_stage 19 = .ok (.iconst 2, 1) := by decide +kernel
theorem dL_stage_20 : decode cL_stage 20 = .ok (.iconst 0, 1) := by decide +kernel
theorem dL_stage_21 : decode cL_stage 21 = .ok (.iastore, 1) := by decide +kernel
theorem dL_stage_22 : decode cL_stage 22 = .ok (.dup, 1) := by decide +kernel
theorem dL_stage_23 : decode cL_stage 23 = .ok (.iconst 3, 1) := by decide +kernel
theorem dL_stage_24 : decode cL_stage 24 = .ok (.iconst 0, 1) := by decide +kernel
theorem dL_stage_25 : decode cL_stage 25 = .ok (.iastore, 1) := by decide +kernel
theorem dL_stage_26 : decode cL_stage 26 = .ok (.dup, 1) := by decide +kernel
theorem dL_stage_27 : decode cL_stage 27 = .ok (.iconst 4, 1) := by decide +kernel
theorem dL_stage_28 : decode cL_stage 28 = .ok (.iconst 0, 1) := by decide +kernel
theorem dL_stage_29 : decode cL_stage 29 = .ok (.iastore, 1) := by decide +kernel
theorem dL_stage_30 : decode cL_stage 30 = .ok (.dup, 1) := by decide +kernel
theorem dL_stage_31 : decode cL_stage 31 = .ok (.iconst 5, 1) := by decide +kernel
theorem dL_stage_32 : decode cL_stage 32 = .ok (.iconst 0, 1) := by decide +kernel
theorem dL_stage_33 : decode cL_stage 33 = .ok (.iastore, 1) := by decide +kernel
theorem dL_stage_34 : decode cL_stage 34 = .ok (.dup, 1) := by decide +kernel
theorem dL_stage_35 : decode cL_stage 35 = .ok (.bipush 6, 2) := by decide +kernel
theorem dL_stage_37 : decode cL_stage 37 = .ok (.iconst 0, 1) := by decide +kernel
theorem dL_stage_38 : decode cL_stage 38 = .ok (.iastore, 1) := by decide +kernel
theorem dL_stage_39 : decode cL_stage 39 = .ok (.astore_n 2, 1) := by decide +kernel
theorem dL_stage_40 : decode cL_stage 40 = .ok (.iload_n 1, 1) := by decide +kernel
theorem dL_stage_41 : decode cL_stage 41 = .ok (.ifCond .ne 15, 3) := by decide +kernel
theorem dL_stage_44 : decode cL_stage 44 = .ok (.aload_n 2, 1) := by decide +kernel
theorem dL_stage_45 : decode cL_stage 45 = .ok (.iconst 1, 1) := by decide +kernel
theorem dL_stage_46 : decode cL_stage 46 = .ok (.iconst 2, 1) := by decide +kernel
theorem dL_stage_47 : decode cL_stage 47 = .ok (.iload_n 0, 1) := by decide +kernel
theorem dL_stage_48 : decode cL_stage 48 = .ok (.iconst 2, 1) := by decide +kernel
theorem dL_stage_49 : decode cL_stage 49 = .ok (.ishr, 1) := by decide +kernel
theorem dL_stage_50 : decode cL_stage 50 = .ok (.iconst 3, 1) := by decide +kernel
theorem dL_stage_51 : decode cL_stage 51 = .ok (.invokestatic 56, 3) := by decide +kernel
theorem dL_stage_54 : decode cL_stage 54 = .ok (.iadd, 1) := by decide +kernel
theorem dL_stage_55 : decode cL_stage 55 = .ok (.iastore, 1) := by decide +kernel
theorem dL_stage_56 : decode cL_stage 56 = .ok (.iload_n 1, 1) := by decide +kernel
theorem dL_stage_57 : decode cL_stage 57 = .ok (.iconst 1, 1) := by decide +kernel
theorem dL_stage_58 : decode cL_stage 58 = .ok (.if_icmp .ne 62, 3) := by decide +kernel
theorem dL_stage_61 : decode cL_stage 61 = .ok (.aload_n 2, 1) := by decide +kernel
theorem dL_stage_62 : decode cL_stage 62 = .ok (.iconst 1, 1) := by decide +kernel
theorem dL_stage_63 : decode cL_stage 63 = .ok (.iconst 1, 1) := by decide +kernel
theorem dL_stage_64 : decode cL_stage 64 = .ok (.iload_n 0, 1) := by decide +kernel
theorem dL_stage_65 : decode cL_stage 65 = .ok (.iconst 2, 1) := by decide +kernel
theorem dL_stage_66 : decode cL_stage 66 = .ok (.ishr, 1) := by decide +kernel
theorem dL_stage_67 : decode cL_stage 67 = .ok (.iconst 4, 1) := by decide +kernel
theorem dL_stage_68 : decode cL_stage 68 = .ok (.invokestatic 56, 3) := by decide +kernel
theorem dL_stage_71 : decode cL_stage 71 = .ok (.iadd, 1) := by decide +kernel
theorem dL_stage_72 : decode cL_stage 72 = .ok (.iastore, 1) := by decide +kernel
theorem dL_stage_73 : decode cL_stage 73 = .ok (.aload_n 2, 1) := by decide +kernel
theorem dL_stage_74 : decode cL_stage 74 = .ok (.iconst 2, 1) := by decide +kernel
theorem dL_stage_75 : decode cL_stage 75 = .ok (.aload_n 2, 1) := by decide +kernel
theorem dL_stage_76 : decode cL_stage 76 = .ok (.iconst 1, 1) := by decide +kernel
theorem dL_stage_77 : decode cL_stage 77 = .ok (.iaload, 1) := by decide +kernel
theorem dL_stage_78 : decode cL_stage 78 = .ok (.iload_n 0, 1) := by decide +kernel
theorem dL_stage_79 : decode cL_stage 79 = .ok (.iconst 4, 1) := by decide +kernel
theorem dL_stage_80 : decode cL_stage 80 = .ok (.ishr, 1) := by decide +kernel
theorem dL_stage_81 : decode cL_stage 81 = .ok (.iconst 4, 1) := by decide +kernel
theorem dL_stage_82 : decode cL_stage 82 = .ok (.invokestatic 56, 3) := by decide +kernel
theorem dL_stage_85 : decode cL_stage 85 = .ok (.iadd, 1) := by decide +kernel
theorem dL_stage_86 : decode cL_stage 86 = .ok (.iastore, 1) := by decide +kernel
theorem dL_stage_87 : decode cL_stage 87 = .ok (.iconst 0, 1) := by decide +kernel
theorem dL_stage_88 : decode cL_stage 88 = .ok (.istore_n 3, 1) := by decide +kernel
theorem dL_stage_89 : decode cL_stage 89 = .ok (.iload_n 3, 1) := by decide +kernel
theorem dL_stage_90 : decode cL_stage 90 = .ok (.aload_n 2, 1) := by decide +kernel
theorem dL_stage_91 : decode cL_stage 91 = .ok (.iconst 1, 1) := by decide +kernel
theorem dL_stage_92 : decode cL_stage 92 = .ok (.iaload, 1) := by decide +kernel
theorem dL_stage_93 : decode cL_stage 93 = .ok (.if_icmp .ge 27, 3) := by decide +kernel
theorem dL_stage_96 : decode cL_stage 96 = .ok (.aload_n 2, 1) := by decide +kernel
theorem dL_stage_97 : decode cL_stage 97 = .ok (.iconst 3, 1) := by decide +kernel
theorem dL_stage_98 : decode cL_stage 98 = .ok (.iload_n 3, 1) := by decide +kernel
theorem dL_stage_99 : decode cL_stage 99 = .ok (.iadd, 1) := by decide +kernel
theorem dL_stage_100 : decode cL_stage 100 = .ok (.iload_n 0, 1) := by decide +kernel
theorem dL_stage_101 : decode cL_stage 101 = .ok (.iload_n 3, 1) := by decide +kernel
theorem dL_stage_102 : decode cL_stage 102 = .ok (.iconst 1, 1) := by decide +kernel
theorem dL_stage_103 : decode cL_stage 103 = .ok (.iadd, 1) := by decide +kernel
theorem dL_stage_104 : decode cL_stage 104 = .ok (.ishr, 1) := by decide +kernel
theorem dL_stage_105 : decode cL_stage 105 = .ok (.iconst 1, 1) := by decide +kernel
theorem dL_stage_106 : decode cL_stage 106 = .ok (.aload_n 2, 1) := by decide +kernel
theorem dL_stage_107 : decode cL_stage 107 = .ok (.iconst 2, 1) := by decide +kernel
theorem dL_stage_108 : decode cL_stage 108 = .ok (.iaload, 1) := by decide +kernel
theorem dL_stage_109 : decode cL_stage 109 = .ok (.ishl, 1) := by decide +kernel
theorem dL_stage_110 : decode cL_stage 110 = .ok (.invokestatic 56, 3) := by decide +kernel
theorem dL_stage_113 : decode cL_stage 113 = .ok (.iastore, 1) := by decide +kernel
theorem dL_stage_114 : decode cL_stage 114 = .ok (.iinc 3 1, 3) := by decide +kernel
theorem dL_stage_117 : decode cL_stage 117 = .ok (.goto (-28), 3) := by decide +kernel
theorem dL_stage_120 : decode cL_stage 120 = .ok (.iload_n 1, 1) := by decide +kernel
theorem dL_stage_121 : decode cL_stage 121 = .ok (.iconst 2, 1) := by decide +kernel
theorem dL_stage_122 : decode cL_stage 122 = .ok (.if_icmp .ne 29, 3) := by decide +kernel
theorem dL_stage_125 : decode cL_stage 125 = .ok (.aload_n 2, 1) := by decide +kernel
theorem dL_stage_126 : decode cL_stage 126 = .ok (.iconst 1, 1) := by decide +kernel
theorem dL_stage_127 : decode cL_stage 127 = .ok (.iconst 2, 1) := by decide +kernel
theorem dL_stage_128 : decode cL_stage 128 = .ok (.iload_n 0, 1) := by decide +kernel
theorem dL_stage_129 : decode cL_stage 129 = .ok (.iconst 2, 1) := by decide +kernel
theorem dL_stage_130 : decode cL_stage 130 = .ok (.ishr, 1) := by decide +kernel
theorem dL_stage_131 : decode cL_stage 131 = .ok (.bipush 60, 2) := by decide +kernel
theorem dL_stage_133 : decode cL_stage 133 = .ok (.invokestatic 56, 3) := by decide +kernel
theorem dL_stage_136 : decode cL_stage 136 = .ok (.iadd, 1) := by decide +kernel
theorem dL_stage_137 : decode cL_stage 137 = .ok (.iastore, 1) := by decide +kernel
theorem dL_stage_138 : decode cL_stage 138 = .ok (.aload_n 2, 1) := by decide +kernel
theorem dL_stage_139 : decode cL_stage 139 = .ok (.iconst 2, 1) := by decide +kernel
theorem dL_stage_140 : decode cL_stage 140 = .ok (.iconst 1, 1) := by decide +kernel
theorem dL_stage_141 : decode cL_stage 141 = .ok (.iload_n 0, 1) := by decide +kernel
theorem dL_stage_142 : decode cL_stage 142 = .ok (.iconst 3, 1) := by decide +kernel
theorem dL_stage_143 : decode cL_stage 143 = .ok (.ishr, 1) := by decide +kernel
theorem dL_stage_144 : decode cL_stage 144 = .ok (.bipush 9, 2) := by decide +kernel
theorem dL_stage_146 : decode cL_stage 146 = .ok (.invokestatic 56, 3) := by decide +kernel
theorem dL_stage_149 : decode cL_stage 149 = .ok (.iadd, 1) := by decide +kernel
theorem dL_stage_150 : decode cL_stage 150 = .ok (.iastore, 1) := by decide +kernel
theorem dL_stage_151 : decode cL_stage 151 = .ok (.iload_n 1, 1) := by decide +kernel
theorem dL_stage_152 : decode cL_stage 152 = .ok (.iconst 3, 1) := by decide +kernel
theorem dL_stage_153 : decode cL_stage 153 = .ok (.if_icmp .ne 67, 3) := by decide +kernel
theorem dL_stage_156 : decode cL_stage 156 = .ok (.aload_n 2, 1) := by decide +kernel
theorem dL_stage_157 : decode cL_stage 157 = .ok (.iconst 1, 1) := by decide +kernel
theorem dL_stage_158 : decode cL_stage 158 = .ok (.iconst 1, 1) := by decide +kernel
theorem dL_stage_159 : decode cL_stage 159 = .ok (.iload_n 0, 1) := by decide +kernel
theorem dL_stage_160 : decode cL_stage 160 = .ok (.iconst 2, 1) := by decide +kernel
theorem dL_stage_161 : decode cL_stage 161 = .ok (.ishr, 1) := by decide +kernel
theorem dL_stage_162 : decode cL_stage 162 = .ok (.iconst 3, 1) := by decide +kernel
theorem dL_stage_163 : decode cL_stage 163 = .ok (.invokestatic 56, 3) := by decide +kernel
theorem dL_stage_166 : decode cL_stage 166 = .ok (.iadd, 1) := by decide +kernel
theorem dL_stage_167 : decode cL_stage 167 = .ok (.iastore, 1) := by decide +kernel
theorem dL_stage_168 : decode cL_stage 168 = .ok (.iconst 2, 1) := by decide +kernel
theorem dL_stage_169 : decode cL_stage 169 = .ok (.aload_n 2, 1) := by decide +kernel
theorem dL_stage_170 : decode cL_stage 170 = .ok (.iconst 1, 1) := by decide +kernel
theorem dL_stage_171 : decode cL_stage 171 = .ok (.iaload, 1) := by decide +kernel
theorem dL_stage_172 : decode cL_stage 172 = .ok (.ishl, 1) := by decide +kernel
theorem dL_stage_173 : decode cL_stage 173 = .ok (.iconst 1, 1) := by decide +kernel
theorem dL_stage_174 : decode cL_stage 174 = .ok (.isub, 1) := by decide +kernel
theorem dL_stage_175 : decode cL_stage 175 = .ok (.istore_n 3, 1) := by decide +kernel
theorem dL_stage_176 : decode cL_stage 176 = .ok (.aload_n 2, 1) := by decide +kernel
theorem dL_stage_177 : decode cL_stage 177 = .ok (.iconst 3, 1) := by decide +kernel
theorem dL_stage_178 : decode cL_stage 178 = .ok (.iconst 1, 1) := by decide +kernel
theorem dL_stage_179 : decode cL_stage 179 = .ok (.iload_n 0, 1) := by decide +kernel
theorem dL_stage_180 : decode cL_stage 180 = .ok (.iconst 3, 1) := by decide +kernel
theorem dL_stage_181 : decode cL_stage 181 = .ok (.ishr, 1) := by decide +kernel
theorem dL_stage_182 : decode cL_stage 182 = .ok (.iload_n 3, 1) := by decide +kernel
theorem dL_stage_183 : decode cL_stage 183 = .ok (.invokestatic 56, 3) := by decide +kernel
theorem dL_stage_186 : decode cL_stage 186 = .ok (.iadd, 1) := by decide +kernel
theorem dL_stage_187 : decode cL_stage 187 = .ok (.iastore, 1) := by decide +kernel
theorem dL_stage_188 : decode cL_stage 188 = .ok (.aload_n 2, 1) := by decide +kernel
theorem dL_stage_189 : decode cL_stage 189 = .ok (.iconst 4, 1) := by decide +kernel
theorem dL_stage_190 : decode cL_stage 190 = .ok (.iconst 1, 1) := by decide +kernel
theorem dL_stage_191 : decode cL_stage 191 = .ok (.iload_n 0, 1) := by decide +kernel
theorem dL_stage_192 : decode cL_stage 192 = .ok (.iconst 5, 1) := by decide +kernel
theorem dL_stage_193 : decode cL_stage 193 = .ok (.ishr, 1) := by decide +kernel
theorem dL_stage_194 : decode cL_stage 194 = .ok (.iload_n 3, 1) := by decide +kernel
theorem dL_stage_195 : decode cL_stage 195 = .ok (.invokestatic 56, 3) := by decide +kernel
theorem dL_stage_198 : decode cL_stage 198 = .ok (.iadd, 1) := by decide +kernel
theorem dL_stage_199 : decode cL_stage 199 = .ok (.iastore, 1) := by decide +kernel
theorem dL_stage_200 : decode cL_stage 200 = .ok (.aload_n 2, 1) := by decide +kernel
theorem dL_stage_201 : decode cL_stage 201 = .ok (.iconst 5, 1) := by decide +kernel
theorem dL_stage_202 : decode cL_stage 202 = .ok (.iload_n 0, 1) := by decide +kernel
theorem dL_stage_203 : decode cL_stage 203 = .ok (.iconst 4, 1) := by decide +kernel
theorem dL_stage_204 : decode cL_stage 204 = .ok (.ishr, 1) := by decide +kernel
theorem dL_stage_205 : decode cL_stage 205 = .ok (.iload_n 3, 1) := by decide +kernel
theorem dL_stage_206 : decode cL_stage 206 = .ok (.iconst 1, 1) := by decide +kernel
theorem dL_stage_207 : decode cL_stage 207 = .ok (.iadd, 1) := by decide +kernel
theorem dL_stage_208 : decode cL_stage 208 = .ok (.invokestatic 56, 3) := by decide +kernel
theorem dL_stage_211 : decode cL_stage 211 = .ok (.iload_n 0, 1) := by decide +kernel
theorem dL_stage_212 : decode cL_stage 212 = .ok (.iconst 1, 1) := by decide +kernel
theorem dL_stage_213 : decode cL_stage 213 = .ok (.ishr, 1) := by decide +kernel
theorem dL_stage_214 : decode cL_stage 214 = .ok (.iconst 2, 1) := by decide +kernel
theorem dL_stage_215 : decode cL_stage 215 = .ok (.invokestatic 56, 3) := by decide +kernel
theorem dL_stage_218 : decode cL_stage 218 = .ok (.imul, 1) := by decide +kernel
theorem dL_stage_219 : decode cL_stage 219 = .ok (.iastore, 1) := by decide +kernel
theorem dL_stage_220 : decode cL_stage 220 = .ok (.iload_n 1, 1) := by decide +kernel
theorem dL_stage_221 : decode cL_stage 221 = .ok (.iconst 4, 1) := by decide +kernel
theorem dL_stage_222 : decode cL_stage 222 = .ok (.if_icmp .ne 27, 3) := by decide +kernel
theorem dL_stage_225 : decode cL_stage 225 = .ok (.aload_n 2, 1) := by decide +kernel
theorem dL_stage_226 : decode cL_stage 226 = .ok (.iconst 1, 1) := by decide +kernel
theorem dL_stage_227 : decode cL_stage 227 = .ok (.iconst 1, 1) := by decide +kernel
theorem dL_stage_228 : decode cL_stage 228 = .ok (.iload_n 0, 1) := by decide +kernel
theorem dL_stage_229 : decode cL_stage 229 = .ok (.iconst 2, 1) := by decide +kernel
theorem dL_stage_230 : decode cL_stage 230 = .ok (.ishr, 1) := by decide +kernel
theorem dL_stage_231 : decode cL_stage 231 = .ok (.iconst 4, 1) := by decide +kernel
theorem dL_stage_232 : decode cL_stage 232 = .ok (.invokestatic 56, 3) := by decide +kernel
theorem dL_stage_235 : decode cL_stage 235 = .ok (.iadd, 1) := by decide +kernel
theorem dL_stage_236 : decode cL_stage 236 = .ok (.iastore, 1) := by decide +kernel
theorem dL_stage_237 : decode cL_stage 237 = .ok (.aload_n 2, 1) := by decide +kernel
theorem dL_stage_238 : decode cL_stage 238 = .ok (.iconst 2, 1) := by decide +kernel
theorem dL_stage_239 : decode cL_stage 239 = .ok (.iconst 1, 1) := by decide +kernel
theorem dL_stage_240 : decode cL_stage 240 = .ok (.iload_n 0, 1) := by decide +kernel
theorem dL_stage_241 : decode cL_stage 241 = .ok (.iconst 3, 1) := by decide +kernel
theorem dL_stage_242 : decode cL_stage 242 = .ok (.ishr, 1) := by decide +kernel
theorem dL_stage_243 : decode cL_stage 243 = .ok (.iconst 4, 1) := by decide +kernel
theorem dL_stage_244 : decode cL_stage 244 = .ok (.invokestatic 56, 3) := by decide +kernel
theorem dL_stage_247 : decode cL_stage 247 = .ok (.iadd, 1) := by decide +kernel
theorem dL_stage_248 : decode cL_stage 248 = .ok (.iastore, 1) := by decide +kernel
theorem dL_stage_249 : decode cL_stage 249 = .ok (.aload_n 2, 1) := by decide +kernel
theorem dL_stage_250 : decode cL_stage 250 = .ok (.areturn, 1) := by decide +kernel
theorem dL_tell_0 : decode cL_tell 0 = .ok (.aload_n 1, 1) := by decide +kernel
theorem dL_tell_1 : decode cL_tell 1 = .ok (.iconst 0, 1) := by decide +kernel
theorem dL_tell_2 : decode cL_tell 2 = .ok (.iaload, 1) := by decide +kernel
theorem dL_tell_3 : decode cL_tell 3 = .ok (.tableswitch 89 0 3 #[29, 37, 61, 72], 29) := by decide +kernel
theorem dL_tell_32 : decode cL_tell 32 = .ok (.aload_n 0, 1) := by decide +kernel
theorem dL_tell_33 : decode cL_tell 33 = .ok (.aload_n 1, 1) := by decide +kernel
theorem dL_tell_34 : decode cL_tell 34 = .ok (.iconst 1, 1) := by decide +kernel
theorem dL_tell_35 : decode cL_tell 35 = .ok (.iaload, 1) := by decide +kernel
theorem dL_tell_36 : decode cL_tell 36 = .ok (.invokevirtual 60, 3) := by decide +kernel
theorem dL_tell_39 : decode cL_tell 39 = .ok (.ireturn, 1) := by decide +kernel
theorem dL_tell_40 : decode cL_tell 40 = .ok (.aload_n 0, 1) := by decide +kernel
theorem dL_tell_41 : decode cL_tell 41 = .ok (.aload_n 1, 1) := by decide +kernel
theorem dL_tell_42 : decode cL_tell 42 = .ok (.iconst 1, 1) := by decide +kernel
theorem dL_tell_43 : decode cL_tell 43 = .ok (.iaload, 1) := by decide +kernel
theorem dL_tell_44 : decode cL_tell 44 = .ok (.aload_n 1, 1) := by decide +kernel
theorem dL_tell_45 : decode cL_tell 45 = .ok (.iconst 2, 1) := by decide +kernel
theorem dL_tell_46 : decode cL_tell 46 = .ok (.iaload, 1) := by decide +kernel
theorem dL_tell_47 : decode cL_tell 47 = .ok (.aload_n 1, 1) := by decide +kernel
theorem dL_tell_48 : decode cL_tell 48 = .ok (.iconst 3, 1) := by decide +kernel
theorem dL_tell_49 : decode cL_tell 49 = .ok (.iaload, 1) := by decide +kernel
theorem dL_tell_50 : decode cL_tell 50 = .ok (.aload_n 1, 1) := by decide +kernel
theorem dL_tell_51 : decode cL_tell 51 = .ok (.iconst 4, 1) := by decide +kernel
theorem dL_tell_52 : decode cL_tell 52 = .ok (.iaload, 1) := by decide +kernel
theorem dL_tell_53 : decode cL_tell 53 = .ok (.aload_n 1, 1) := by decide +kernel
theorem dL_tell_54 : decode cL_tell 54 = .ok (.iconst 5, 1) := by decide +kernel
theorem dL_tell_55 : decode cL_tell 55 = .ok (.iaload, 1) := by decide +kernel
theorem dL_tell_56 : decode cL_tell 56 = .ok (.aload_n 1, 1) := by decide +kernel
theorem dL_tell_57 : decode cL_tell 57 = .ok (.bipush 6, 2) := by decide +kernel
theorem dL_tell_59 : decode cL_tell 59 = .ok (.iaload, 1) := by decide +kernel
theorem dL_tell_60 : decode cL_tell 60 = .ok (.invokevirtual 65, 3) := by decide +kernel
theorem dL_tell_63 : decode cL_tell 63 = .ok (.ireturn, 1) := by decide +kernel
theorem dL_tell_64 : decode cL_tell 64 = .ok (.aload_n 0, 1) := by decide +kernel
theorem dL_tell_65 : decode cL_tell 65 = .ok (.aload_n 1, 1) := by decide +kernel
theorem dL_tell_66 : decode cL_tell 66 = .ok (.iconst 1, 1) := by decide +kernel
theorem dL_tell_67 : decode cL_tell 67 = .ok (.iaload, 1) := by decide +kernel
theorem dL_tell_68 : decode cL_tell 68 = .ok (.aload_n 1, 1) := by decide +kernel
theorem dL_tell_69 : decode cL_tell 69 = .ok (.iconst 2, 1) := by decide +kernel
theorem dL_tell_70 : decode cL_tell 70 = .ok (.iaload, 1) := by decide +kernel
theorem dL_tell_71 : decode cL_tell 71 = .ok (.invokevirtual 69, 3) := by decide +kernel
theorem dL_tell_74 : decode cL_tell 74 = .ok (.ireturn, 1) := by decide +kernel
theorem dL_tell_75 : decode cL_tell 75 = .ok (.aload_n 0, 1) := by decide +kernel
theorem dL_tell_76 : decode cL_tell 76 = .ok (.aload_n 1, 1) := by decide +kernel
theorem dL_tell_77 : decode cL_tell 77 = .ok (.iconst 1, 1) := by decide +kernel
theorem dL_tell_78 : decode cL_tell 78 = .ok (.iaload, 1) := by decide +kernel
theorem dL_tell_79 : decode cL_tell 79 = .ok (.aload_n 1, 1) := by decide +kernel
theorem dL_tell_80 : decode cL_tell 80 = .ok (.iconst 3, 1) := by decide +kernel
theorem dL_tell_81 : decode cL_tell 81 = .ok (.iaload, 1) := by decide +kernel
theorem dL_tell_82 : decode cL_tell 82 = .ok (.aload_n 1, 1) := by decide +kernel
theorem dL_tell_83 : decode cL_tell 83 = .ok (.iconst 4, 1) := by decide +kernel
theorem dL_tell_84 : decode cL_tell 84 = .ok (.iaload, 1) := by decide +kernel
theorem dL_tell_85 : decode cL_tell 85 = .ok (.aload_n 1, 1) := by decide +kernel
theorem dL_tell_86 : decode cL_tell 86 = .ok (.iconst 5, 1) := by decide +kernel
theorem dL_tell_87 : decode cL_tell 87 = .ok (.iaload, 1) := by decide +kernel
theorem dL_tell_88 : decode cL_tell 88 = .ok (.invokevirtual 72, 3) := by decide +kernel
theorem dL_tell_91 : decode cL_tell 91 = .ok (.ireturn, 1) := by decide +kernel
theorem dL_tell_92 : decode cL_tell 92 = .ok (.aload_n 0, 1) := by decide +kernel
theorem dL_tell_93 : decode cL_tell 93 = .ok (.aload_n 1, 1) := by decide +kernel
theorem dL_tell_94 : decode cL_tell 94 = .ok (.iconst 1, 1) := by decide +kernel
theorem dL_tell_95 : decode cL_tell 95 = .ok (.iaload, 1) := by decide +kernel
theorem dL_tell_96 : decode cL_tell 96 = .ok (.aload_n 1, 1) := by decide +kernel
theorem dL_tell_97 : decode cL_tell 97 = .ok (.iconst 2, 1) := by decide +kernel
theorem dL_tell_98 : decode cL_tell 98 = .ok (.iaload, 1) := by decide +kernel
theorem dL_tell_99 : decode cL_tell 99 = .ok (.invokevirtual 76, 3) := by decide +kernel
theorem dL_tell_102 : decode cL_tell 102 = .ok (.ireturn, 1) := by decide +kernel
theorem dL_message_0 : decode cL_message 0 = .ok (.iconst 0, 1) := by decide +kernel
theorem dL_message_1 : decode cL_message 1 = .ok (.newarray .int, 2) := by decide +kernel
theorem dL_message_3 : decode cL_message 3 = .ok (.astore_n 3, 1) := by decide +kernel
theorem dL_message_4 : decode cL_message 4 = .ok (.aload_n 3, 1) := by decide +kernel
theorem dL_message_5 : decode cL_message 5 = .ok (.arraylength, 1) := by decide +kernel
theorem dL_message_6 : decode cL_message 6 = .ok (.iload_n 2, 1) := by decide +kernel
theorem dL_message_7 : decode cL_message 7 = .ok (.if_icmp .ge 110, 3) := by decide +kernel
theorem dL_message_10 : decode cL_message 10 = .ok (.iload_n 2, 1) := by decide +kernel
theorem dL_message_11 : decode cL_message 11 = .ok (.aload_n 3, 1) := by decide +kernel
theorem dL_message_12 : decode cL_message 12 = .ok (.arraylength, 1) := by decide +kernel
theorem dL_message_13 : decode cL_message 13 = .ok (.isub, 1) := by decide +kernel
theorem dL_message_14 : decode cL_message 14 = .ok (.iconst 1, 1) := by decide +kernel
theorem dL_message_15 : decode cL_message 15 = .ok (.aload_n 1, 1) := by decide +kernel
theorem dL_message_16 : decode cL_message 16 = .ok (.aload_n 3, 1) := by decide +kernel
theorem dL_message_17 : decode cL_message 17 = .ok (.arraylength, 1) := by decide +kernel
theorem dL_message_18 : decode cL_message 18 = .ok (.bipush 16, 2) := by decide +kernel
theorem dL_message_20 : decode cL_message 20 = .ok (.irem, 1) := by decide +kernel
theorem dL_message_21 : decode cL_message 21 = .ok (.invokestatic 79, 3) := by decide +kernel
theorem dL_message_24 : decode cL_message 24 = .ok (.bipush 7, 2) := by decide +kernel
theorem dL_message_26 : decode cL_message 26 = .ok (.invokestatic 56, 3) := by decide +kernel
theorem dL_message_29 : decode cL_message 29 = .ok (.iadd, 1) := by decide +kernel
theorem dL_message_30 : decode cL_message 30 = .ok (.invokestatic 82, 3) := by decide +kernel
theorem dL_message_33 : decode cL_message 33 = .ok (.istore 4, 2) := by decide +kernel
theorem dL_message_35 : decode cL_message 35 = .ok (.aload_n 1, 1) := by decide +kernel
theorem dL_message_36 : decode cL_message 36 = .ok (.aload_n 3, 1) := by decide +kernel
theorem dL_message_37 : decode cL_message 37 = .ok (.arraylength, 1) := by decide +kernel
theorem dL_message_38 : decode cL_message 38 = .ok (.iconst 3, 1) := by decide +kernel
theorem dL_message_39 : decode cL_message 39 = .ok (.iadd, 1) := by decide +kernel
theorem dL_message_40 : decode cL_message 40 = .ok (.bipush 16, 2) := by decide +kernel
theorem dL_message_42 : decode cL_message 42 = .ok (.irem, 1) := by decide +kernel
theorem dL_message_43 : decode cL_message 43 = .ok (.invokestatic 79, 3) := by decide +kernel
theorem dL_message_46 : decode cL_message 46 = .ok (.iconst 1, 1) := by decide +kernel
theorem dL_message_47 : decode cL_message 47 = .ok (.iload 4, 2) := by decide +kernel
theorem dL_message_49 : decode cL_message 49 = .ok (.ishl, 1) := by decide +kernel
theorem dL_message_50 : decode cL_message 50 = .ok (.invokestatic 56, 3) := by decide +kernel
theorem dL_message_53 : decode cL_message 53 = .ok (.istore 5, 2) := by decide +kernel
theorem dL_message_55 : decode cL_message 55 = .ok (.iload 5, 2) := by decide +kernel
theorem dL_message_57 : decode cL_message 57 = .ok (.iload 4, 2) := by decide +kernel
theorem dL_message_59 : decode cL_message 59 = .ok (.invokestatic 39, 3) := by decide +kernel
theorem dL_message_62 : decode cL_message 62 = .ok (.astore 6, 2) := by decide +kernel
theorem dL_message_64 : decode cL_message 64 = .ok (.aload 6, 2) := by decide +kernel
theorem dL_message_66 : decode cL_message 66 = .ok (.arraylength, 1) := by decide +kernel
theorem dL_message_67 : decode cL_message 67 = .ok (.istore 7, 2) := by decide +kernel
theorem dL_message_69 : decode cL_message 69 = .ok (.iconst 0, 1) := by decide +kernel
theorem dL_message_70 : decode cL_message 70 = .ok (.istore 8, 2) := by decide +kernel
theorem dL_message_72 : decode cL_message 72 = .ok (.iload 8, 2) := by decide +kernel
theorem dL_message_74 : decode cL_message 74 = .ok (.iload 7, 2) := by decide +kernel
theorem dL_message_76 : decode cL_message 76 = .ok (.if_icmp .ge 23, 3) := by decide +kernel
theorem dL_message_79 : decode cL_message 79 = .ok (.aload 6, 2) := by decide +kernel
theorem dL_message_81 : decode cL_message 81 = .ok (.iload 8, 2) := by decide +kernel
theorem dL_message_83 : decode cL_message 83 = .ok (.iaload, 1) := by decide +kernel
theorem dL_message_84 : decode cL_message 84 = .ok (.istore 9, 2) := by decide +kernel
theorem dL_message_86 : decode cL_message 86 = .ok (.aload_n 3, 1) := by decide +kernel
theorem dL_message_87 : decode cL_message 87 = .ok (.iload 9, 2) := by decide +kernel
theorem dL_message_89 : decode cL_message 89 = .ok (.invokestatic 15, 3) := by decide +kernel
theorem dL_message_92 : decode cL_message 92 = .ok (.astore_n 3, 1) := by decide +kernel
theorem dL_message_93 : decode cL_message 93 = .ok (.iinc 8 1, 3) := by decide +kernel
theorem dL_message_96 : decode cL_message 96 = .ok (.goto (-24), 3) := by decide +kernel
theorem dL_message_99 : decode cL_message 99 = .ok (.aload_n 0, 1) := by decide +kernel
theorem dL_message_100 : decode cL_message 100 = .ok (.iload 5, 2) := by decide +kernel
theorem dL_message_102 : decode cL_message 102 = .ok (.iload 4, 2) := by decide +kernel
theorem dL_message_104 : decode cL_message 104 = .ok (.invokevirtual 87, 3) := by decide +kernel
theorem dL_message_107 : decode cL_message 107 = .ok (.aload_n 3, 1) := by decide +kernel
theorem dL_message_108 : decode cL_message 108 = .ok (.arraylength, 1) := by decide +kernel
theorem dL_message_109 : decode cL_message 109 = .ok (.if_icmp .eq 5, 3) := by decide +kernel
theorem dL_message_112 : decode cL_message 112 = .ok (.aconst_null, 1) := by decide +kernel
theorem dL_message_113 : decode cL_message 113 = .ok (.areturn, 1) := by decide +kernel
theorem dL_message_114 : decode cL_message 114 = .ok (.goto (-110), 3) := by decide +kernel
theorem dL_message_117 : decode cL_message 117 = .ok (.aload_n 3, 1) := by decide +kernel
theorem dL_message_118 : decode cL_message 118 = .ok (.areturn, 1) := by decide +kernel
theorem dL_law_0 : decode cL_law 0 = .ok (.new 61, 3) := by decide +kernel
theorem dL_law_3 : decode cL_law 3 = .ok (.dup, 1) := by decide +kernel
theorem dL_law_4 : decode cL_law 4 = .ok (.invokespecial 90, 3) := by decide +kernel
theorem dL_law_7 : decode cL_law 7 = .ok (.astore_n 1, 1) := by decide +kernel
theorem dL_law_8 : decode cL_law 8 = .ok (.aload_n 1, 1) := by decide +kernel
theorem dL_law_9 : decode cL_law 9 = .ok (.aload_n 0, 1) := by decide +kernel
theorem dL_law_10 : decode cL_law 10 = .ok (.iconst 1, 1) := by decide +kernel
theorem dL_law_11 : decode cL_law 11 = .ok (.aload_n 0, 1) := by decide +kernel
theorem dL_law_12 : decode cL_law 12 = .ok (.iconst 0, 1) := by decide +kernel
theorem dL_law_13 : decode cL_law 13 = .ok (.invokestatic 79, 3) := by decide +kernel
theorem dL_law_16 : decode cL_law 16 = .ok (.bipush 8, 2) := by decide +kernel
theorem dL_law_18 : decode cL_law 18 = .ok (.invokestatic 56, 3) := by decide +kernel
theorem dL_law_21 : decode cL_law 21 = .ok (.iadd, 1) := by decide +kernel
theorem dL_law_22 : decode cL_law 22 = .ok (.invokestatic 91, 3) := by decide +kernel
theorem dL_law_25 : decode cL_law 25 = .ok (.astore_n 2, 1) := by decide +kernel
theorem dL_law_26 : decode cL_law 26 = .ok (.aload_n 2, 1) := by decide +kernel
theorem dL_law_27 : decode cL_law 27 = .ok (.ifnonnull 5, 3) := by decide +kernel
theorem dL_law_30 : decode cL_law 30 = .ok (.iconst 0, 1) := by decide +kernel
theorem dL_law_31 : decode cL_law 31 = .ok (.ireturn, 1) := by decide +kernel
theorem dL_law_32 : decode cL_law 32 = .ok (.iconst 1, 1) := by decide +kernel
theorem dL_law_33 : decode cL_law 33 = .ok (.istore_n 3, 1) := by decide +kernel
theorem dL_law_34 : decode cL_law 34 = .ok (.iconst 0, 1) := by decide +kernel
theorem dL_law_35 : decode cL_law 35 = .ok (.istore 4, 2) := by decide +kernel
theorem dL_law_37 : decode cL_law 37 = .ok (.iload 4, 2) := by decide +kernel
theorem dL_law_39 : decode cL_law 39 = .ok (.iconst 3, 1) := by decide +kernel
theorem dL_law_40 : decode cL_law 40 = .ok (.if_icmp .ge 86, 3) := by decide +kernel
theorem dL_law_43 : decode cL_law 43 = .ok (.aload_n 0, 1) := by decide +kernel
theorem dL_law_44 : decode cL_law 44 = .ok (.iconst 1, 1) := by decide +kernel
theorem dL_law_45 : decode cL_law 45 = .ok (.iload 4, 2) := by decide +kernel
theorem dL_law_47 : decode cL_law 47 = .ok (.iadd, 1) := by decide +kernel
theorem dL_law_48 : decode cL_law 48 = .ok (.invokestatic 79, 3) := by decide +kernel
theorem dL_law_51 : decode cL_law 51 = .ok (.invokestatic 95, 3) := by decide +kernel
theorem dL_law_54 : decode cL_law 54 = .ok (.astore 5, 2) := by decide +kernel
theorem dL_law_56 : decode cL_law 56 = .ok (.aload 5, 2) := by decide +kernel
theorem dL_law_58 : decode cL_law 58 = .ok (.aload_n 1, 1) := by decide +kernel
theorem dL_law_59 : decode cL_law 59 = .ok (.invokevirtual 99, 3) := by decide +kernel
theorem dL_law_62 : decode cL_law 62 = .ok (.newarray .int, 2) := by decide +kernel
theorem dL_law_64 : decode cL_law 64 = .ok (.invokestatic 103, 3) := by decide +kernel
theorem dL_law_67 : decode cL_law 67 = .ok (.astore 6, 2) := by decide +kernel
theorem dL_law_69 : decode cL_law 69 = .ok (.aload 6, 2) := by decide +kernel
theorem dL_law_71 : decode cL_law 71 = .ok (.arraylength, 1) := by decide +kernel
theorem dL_law_72 : decode cL_law 72 = .ok (.bipush 90, 2) := by decide +kernel
theorem dL_law_74 : decode cL_law 74 = .ok (.if_icmp .gt 46, 3) := by decide +kernel
theorem dL_law_77 : decode cL_law 77 = .ok (.aload_n 1, 1) := by decide +kernel
theorem dL_law_78 : decode cL_law 78 = .ok (.invokevirtual 107, 3) := by decide +kernel
theorem dL_law_81 : decode cL_law 81 = .ok (.iload 4, 2) := by decide +kernel
theorem dL_law_83 : decode cL_law 83 = .ok (.if_icmp .eq 6, 3) := by decide +kernel
theorem dL_law_86 : decode cL_law 86 = .ok (.goto 34, 3) := by decide +kernel
theorem dL_law_89 : decode cL_law 89 = .ok (.aload_n 1, 1) := by decide +kernel
theorem dL_law_90 : decode cL_law 90 = .ok (.aload 5, 2) := by decide +kernel
theorem dL_law_92 : decode cL_law 92 = .ok (.invokestatic 110, 3) := by decide +kernel
theorem dL_law_95 : decode cL_law 95 = .ok (.aload 6, 2) := by decide +kernel
theorem dL_law_97 : decode cL_law 97 = .ok (.arraylength, 1) := by decide +kernel
theorem dL_law_98 : decode cL_law 98 = .ok (.if_icmp .eq 5, 3) := by decide +kernel
theorem dL_law_101 : decode cL_law 101 = .ok (.iconst 0, 1) := by decide +kernel
theorem dL_law_102 : decode cL_law 102 = .ok (.ireturn, 1) := by decide +kernel
theorem dL_law_103 : decode cL_law 103 = .ok (.iload_n 3, 1) := by decide +kernel
theorem dL_law_104 : decode cL_law 104 = .ok (.aload_n 1, 1) := by decide +kernel
theorem dL_law_105 : decode cL_law 105 = .ok (.iload 4, 2) := by decide +kernel
theorem dL_law_107 : decode cL_law 107 = .ok (.invokevirtual 114, 3) := by decide +kernel
theorem dL_law_110 : decode cL_law 110 = .ok (.ifCond .le 7, 3) := by decide +kernel
theorem dL_law_113 : decode cL_law 113 = .ok (.iconst 1, 1) := by decide +kernel
theorem dL_law_114 : decode cL_law 114 = .ok (.goto 4, 3) := by decide +kernel
theorem dL_law_117 : decode cL_law 117 = .ok (.iconst 0, 1) := by decide +kernel
theorem dL_law_118 : decode cL_law 118 = .ok (.iand, 1) := by decide +kernel
theorem dL_law_119 : decode cL_law 119 = .ok (.istore_n 3, 1) := by decide +kernel
theorem dL_law_120 : decode cL_law 120 = .ok (.iinc 4 1, 3) := by decide +kernel
theorem dL_law_123 : decode cL_law 123 = .ok (.goto (-86), 3) := by decide +kernel
theorem dL_law_126 : decode cL_law 126 = .ok (.aload_n 1, 1) := by decide +kernel
theorem dL_law_127 : decode cL_law 127 = .ok (.invokevirtual 117, 3) := by decide +kernel
theorem dL_law_130 : decode cL_law 130 = .ok (.lstore 4, 2) := by decide +kernel
theorem dL_law_132 : decode cL_law 132 = .ok (.aload_n 1, 1) := by decide +kernel
theorem dL_law_133 : decode cL_law 133 = .ok (.invokevirtual 107, 3) := by decide +kernel
theorem dL_law_136 : decode cL_law 136 = .ok (.istore 6, 2) := by decide +kernel
theorem dL_law_138 : decode cL_law 138 = .ok (.iconst 0, 1) := by decide +kernel
theorem dL_law_139 : decode cL_law 139 = .ok (.istore 7, 2) := by decide +kernel
theorem dL_law_141 : decode cL_law 141 = .ok (.iload 7, 2) := by decide +kernel
theorem dL_law_143 : decode cL_law 143 = .ok (.iload 6, 2) := by decide +kernel
theorem dL_law_145 : decode cL_law 145 = .ok (.if_icmp .ge 57, 3) := by decide +kernel
theorem dL_law_148 : decode cL_law 148 = .ok (.aload_n 1, 1) := by decide +kernel
theorem dL_law_149 : decode cL_law 149 = .ok (.iload 7, 2) := by decide +kernel
theorem dL_law_151 : decode cL_law 151 = .ok (.iconst 1, 1) := by decide +kernel
theorem dL_law_152 : decode cL_law 152 = .ok (.invokevirtual 121, 3) := by decide +kernel
theorem dL_law_155 : decode cL_law 155 = .ok (.iload 7, 2) := by decide +kernel
theorem dL_law_157 : decode cL_law 157 = .ok (.ifCond .ne 8, 3) := by decide +kernel
theorem dL_law_160 : decode cL_law 160 = .ok (.aload_n 2, 1) := by decide +kernel
theorem dL_law_161 : decode cL_law 161 = .ok (.arraylength, 1) := by decide +kernel
theorem dL_law_162 : decode cL_law 162 = .ok (.goto 12, 3) := by decide +kernel
theorem dL_law_165 : decode cL_law 165 = .ok (.aload_n 1, 1) := by decide +kernel
theorem dL_law_166 : decode cL_law 166 = .ok (.iload 7, 2) := by decide +kernel
theorem dL_law_168 : decode cL_law 168 = .ok (.iconst 1, 1) := by decide +kernel
theorem dL_law_169 : decode cL_law 169 = .ok (.isub, 1) := by decide +kernel
theorem dL_law_170 : decode cL_law 170 = .ok (.iconst 2, 1) := by decide +kernel
theorem dL_law_171 : decode cL_law 171 = .ok (.invokevirtual 121, 3) := by decide +kernel
theorem dL_law_174 : decode cL_law 174 = .ok (.if_icmp .ne 20, 3) := by decide +kernel
theorem dL_law_177 : decode cL_law 177 = .ok (.aload_n 1, 1) := by decide +kernel
theorem dL_law_178 : decode cL_law 178 = .ok (.iload 7, 2) := by decide +kernel
theorem dL_law_180 : decode cL_law 180 = .ok (.iconst 2, 1) := by decide +kernel
theorem dL_law_181 : decode cL_law 181 = .ok (.invokevirtual 121, 3) := by decide +kernel
theorem dL_law_184 : decode cL_law 184 = .ok (.aload_n 1, 1) := by decide +kernel
theorem dL_law_185 : decode cL_law 185 = .ok (.iload 7, 2) := by decide +kernel
theorem dL_law_187 : decode cL_law 187 = .ok (.iconst 1, 1) := by decide +kernel
theorem dL_law_188 : decode cL_law 188 = .ok (.invokevirtual 121, 3) := by decide +kernel
theorem dL_law_191 : decode cL_law 191 = .ok (.if_icmp .ge 5, 3) := by decide +kernel
theorem dL_law_194 : decode cL_law 194 = .ok (.iconst 0, 1) := by decide +kernel
theorem dL_law_195 : decode cL_law 195 = .ok (.ireturn, 1) := by decide +kernel
theorem dL_law_196 : decode cL_law 196 = .ok (.iinc 7 1, 3) := by decide +kernel
theorem dL_law_199 : decode cL_law 199 = .ok (.goto (-58), 3) := by decide +kernel
theorem dL_law_202 : decode cL_law 202 = .ok (.aload_n 1, 1) := by decide +kernel
theorem dL_law_203 : decode cL_law 203 = .ok (.invokevirtual 99, 3) := by decide +kernel
theorem dL_law_206 : decode cL_law 206 = .ok (.iload 6, 2) := by decide +kernel
theorem dL_law_208 : decode cL_law 208 = .ok (.ifCond .ne 8, 3) := by decide +kernel
theorem dL_law_211 : decode cL_law 211 = .ok (.aload_n 2, 1) := by decide +kernel
theorem dL_law_212 : decode cL_law 212 = .ok (.arraylength, 1) := by decide +kernel
theorem dL_law_213 : decode cL_law 213 = .ok (.goto 12, 3) := by decide +kernel
theorem dL_law_216 : decode cL_law 216 = .ok (.aload_n 1, 1) := by decide +kernel
theorem dL_law_217 : decode cL_law 217 = .ok (.iload 6, 2) := by decide +kernel
theorem dL_law_219 : decode cL_law 219 = .ok (.iconst 1, 1) := by decide +kernel
theorem dL_law_220 : decode cL_law 220 = .ok (.isub, 1) := by decide +kernel
theorem dL_law_221 : decode cL_law 221 = .ok (.iconst 2, 1) := by decide +kernel
theorem dL_law_222 : decode cL_law 222 = .ok (.invokevirtual 121, 3) := by decide +kernel
theorem dL_law_225 : decode cL_law 225 = .ok (.if_icmp .ne 31, 3) := by decide +kernel
theorem dL_law_228 : decode cL_law 228 = .ok (.aload_n 1, 1) := by decide +kernel
theorem dL_law_229 : decode cL_law 229 = .ok (.invokevirtual 124, 3) := by decide +kernel
theorem dL_law_232 : decode cL_law 232 = .ok (.ifCond .ne 24, 3) := by decide +kernel
theorem dL_law_235 : decode cL_law 235 = .ok (.iload_n 3, 1) := by decide +kernel
theorem dL_law_236 : decode cL_law 236 = .ok (.ifCond .eq 10, 3) := by decide +kernel
theorem dL_law_239 : decode cL_law 239 = .ok (.aload_n 1, 1) := by decide +kernel
theorem dL_law_240 : decode cL_law 240 = .ok (.invokevirtual 127, 3) := by decide +kernel
theorem dL_law_243 : decode cL_law 243 = .ok (.ifCond .ne 13, 3) := by decide +kernel
theorem dL_law_246 : decode cL_law 246 = .ok (.aload_n 1, 1) := by decide +kernel
theorem dL_law_247 : decode cL_law 247 = .ok (.invokevirtual 117, 3) := by decide +kernel
theorem dL_law_250 : decode cL_law 250 = .ok (.lload 4, 2) := by decide +kernel
theorem dL_law_252 : decode cL_law 252 = .ok (.lcmp, 1) := by decide +kernel
theorem dL_law_253 : decode cL_law 253 = .ok (.ifCond .eq 5, 3) := by decide +kernel
theorem dL_law_256 : decode cL_law 256 = .ok (.iconst 0, 1) := by decide +kernel
theorem dL_law_257 : decode cL_law 257 = .ok (.ireturn, 1) := by decide +kernel
theorem dL_law_258 : decode cL_law 258 = .ok (.iload 6, 2) := by decide +kernel
theorem dL_law_260 : decode cL_law 260 = .ok (.iconst 1, 1) := by decide +kernel
theorem dL_law_261 : decode cL_law 261 = .ok (.if_icmp .ne 82, 3) := by decide +kernel
theorem dL_law_264 : decode cL_law 264 = .ok (.aload_n 1, 1) := by decide +kernel
theorem dL_law_265 : decode cL_law 265 = .ok (.iconst 0, 1) := by decide +kernel
theorem dL_law_266 : decode cL_law 266 = .ok (.iconst 0, 1) := by decide +kernel
theorem dL_law_267 : decode cL_law 267 = .ok (.invokevirtual 121, 3) := by decide +kernel
theorem dL_law_270 : decode cL_law 270 = .ok (.iconst 2, 1) := by decide +kernel
theorem dL_law_271 : decode cL_law 271 = .ok (.if_icmp .eq 72, 3) := by decide +kernel
theorem dL_law_274 : decode cL_law 274 = .ok (.aload_n 1, 1) := by decide +kernel
theorem dL_law_275 : decode cL_law 275 = .ok (.iconst 0, 1) := by decide +kernel
theorem dL_law_276 : decode cL_law 276 = .ok (.iconst 0, 1) := by decide +kernel
theorem dL_law_277 : decode cL_law 277 = .ok (.invokevirtual 121, 3) := by decide +kernel
theorem dL_law_280 : decode cL_law 280 = .ok (.iconst 4, 1) := by decide +kernel
theorem dL_law_281 : decode cL_law 281 = .ok (.if_icmp .eq 62, 3) := by decide +kernel
theorem dL_law_284 : decode cL_law 284 = .ok (.aload_n 1, 1) := by decide +kernel
theorem dL_law_285 : decode cL_law 285 = .ok (.iconst 0, 1) := by decide +kernel
theorem dL_law_286 : decode cL_law 286 = .ok (.invokevirtual 114, 3) := by decide +kernel
theorem dL_law_289 : decode cL_law 289 = .ok (.iconst 1, 1) := by decide +kernel
theorem dL_law_290 : decode cL_law 290 = .ok (.isub, 1) := by decide +kernel
theorem dL_law_291 : decode cL_law 291 = .ok (.iconst 2, 1) := by decide +kernel
theorem dL_law_292 : decode cL_law 292 = .ok (.idiv, 1) := by decide +kernel
theorem dL_law_293 : decode cL_law 293 = .ok (.istore 7, 2) := by decide +kernel
theorem dL_law_295 : decode cL_law 295 = .ok (.iconst 0, 1) := by decide +kernel
theorem dL_law_296 : decode cL_law 296 = .ok (.istore 8, 2) := by decide +kernel
theorem dL_law_298 : decode cL_law 298 = .ok (.iload 8, 2) := by decide +kernel
theorem dL_law_300 : decode cL_law 300 = .ok (.aload_n 1, 1) := by decide +kernel
theorem dL_law_301 : decode cL_law 301 = .ok (.invokevirtual 99, 3) := by decide +kernel
theorem dL_law_304 : decode cL_law 304 = .ok (.if_icmp .ge 39, 3) := by decide +kernel
theorem dL_law_307 : decode cL_law 307 = .ok (.aload_n 1, 1) := by decide +kernel
theorem dL_law_308 : decode cL_law 308 = .ok (.iconst 0, 1) := by decide +kernel
theorem dL_law_309 : decode cL_law 309 = .ok (.invokevirtual 114, 3) := by decide +kernel
theorem dL_law_312 : decode cL_law 312 = .ok (.ifCond .le 25, 3) := by decide +kernel
theorem dL_law_315 : decode cL_law 315 = .ok (.aload_n 1, 1) := by decide +kernel
theorem dL_law_316 : decode cL_law 316 = .ok (.iload 8, 2) := by decide +kernel
theorem dL_law_318 : decode cL_law 318 = .ok (.invokevirtual 130, 3) := by decide +kernel
theorem dL_law_321 : decode cL_law 321 = .ok (.ifCond .le 16, 3) := by decide +kernel
theorem dL_law_324 : decode cL_law 324 = .ok (.aload_n 1, 1) := by decide +kernel
theorem dL_law_325 : decode cL_law 325 = .ok (.iload 8, 2) := by decide +kernel
theorem dL_law_327 : decode cL_law 327 = .ok (.invokevirtual 130, 3) := by decide +kernel
theorem dL_law_330 : decode cL_law 330 = .ok (.iload 7, 2) := by decide +kernel
theorem dL_law_332 : decode cL_law 332 = .ok (.if_icmp .gt 5, 3) := by decide +kernel
theorem dL_law_335 : decode cL_law 335 = .ok (.iconst 0, 1) := by decide +kernel
theorem dL_law_336 : decode cL_law 336 = .ok (.ireturn, 1) := by decide +kernel
theorem dL_law_337 : decode cL_law 337 = .ok (.iinc 8 1, 3) := by decide +kernel
theorem dL_law_340 : decode cL_law 340 = .ok (.goto (-42), 3) := by decide +kernel
theorem dL_law_343 : decode cL_law 343 = .ok (.iconst 0, 1) := by decide +kernel
theorem dL_law_344 : decode cL_law 344 = .ok (.istore 7, 2) := by decide +kernel
theorem dL_law_346 : decode cL_law 346 = .ok (.iload 7, 2) := by decide +kernel
theorem dL_law_348 : decode cL_law 348 = .ok (.iconst 3, 1) := by decide +kernel
theorem dL_law_349 : decode cL_law 349 = .ok (.if_icmp .ge 416, 3) := by decide +kernel
theorem dL_law_352 : decode cL_law 352 = .ok (.aload_n 0, 1) := by decide +kernel
theorem dL_law_353 : decode cL_law 353 = .ok (.iconst 5, 1) := by decide +kernel
theorem dL_law_354 : decode cL_law 354 = .ok (.iload 7, 2) := by decide +kernel
theorem dL_law_356 : decode cL_law 356 = .ok (.iadd, 1) := by decide +kernel
theorem dL_law_357 : decode cL_law 357 = .ok (.invokestatic 79, 3) := by decide +kernel
theorem dL_law_360 : decode cL_law 360 = .ok (.istore 8, 2) := by decide +kernel
theorem dL_law_362 : decode cL_law 362 = .ok (.iload 8, 2) := by decide +kernel
theorem dL_law_364 : decode cL_law 364 = .ok (.iconst 4, 1) := by decide +kernel
theorem dL_law_365 : decode cL_law 365 = .ok (.invokestatic 56, 3) := by decide +kernel
theorem dL_law_368 : decode cL_law 368 = .ok (.istore 9, 2) := by decide +kernel
theorem dL_law_370 : decode cL_law 370 = .ok (.aload_n 1, 1) := by decide +kernel
theorem dL_law_371 : decode cL_law 371 = .ok (.iload 9, 2) := by decide +kernel
theorem dL_law_373 : decode cL_law 373 = .ok (.iload 9, 2) := by decide +kernel
theorem dL_law_375 : decode cL_law 375 = .ok (.iconst 2, 1) := by decide +kernel
theorem dL_law_376 : decode cL_law 376 = .ok (.if_icmp .ne 15, 3) := by decide +kernel
theorem dL_law_379 : decode cL_law 379 = .ok (.iload 8, 2) := by decide +kernel
theorem dL_law_381 : decode cL_law 381 = .ok (.iconst 2, 1) := by decide +kernel
theorem dL_law_382 : decode cL_law 382 = .ok (.ishr, 1) := by decide +kernel
theorem dL_law_383 : decode cL_law 383 = .ok (.bipush 30, 2) := by decide +kernel
theorem dL_law_385 : decode cL_law 385 = .ok (.invokestatic 56, 3) := by decide +kernel
theorem dL_law_388 : decode cL_law 388 = .ok (.goto 13, 3) := by decide +kernel
theorem dL_law_391 : decode cL_law 391 = .ok (.iload 8, 2) := by decide +kernel
theorem dL_law_393 : decode cL_law 393 = .ok (.iconst 2, 1) := by decide +kernel
theorem dL_law_394 : decode cL_law 394 = .ok (.ishr, 1) := by decide +kernel
theorem dL_law_395 : decode cL_law 395 = .ok (.sipush 300, 3) := by decide +kernel
theorem dL_law_398 : decode cL_law 398 = .ok (.invokestatic 56, 3) := by decide +kernel
theorem dL_law_401 : decode cL_law 401 = .ok (.iload 9, 2) := by decide +kernel
theorem dL_law_403 : decode cL_law 403 = .ok (.iconst 2, 1) := by decide +kernel
theorem dL_law_404 : decode cL_law 404 = .ok (.if_icmp .ne 7, 3) := by decide +kernel
theorem dL_law_407 : decode cL_law 407 = .ok (.iconst 2, 1) := by decide +kernel
theorem dL_law_408 : decode cL_law 408 = .ok (.goto 13, 3) := by decide +kernel
theorem dL_law_411 : decode cL_law 411 = .ok (.iload 8, 2) := by decide +kernel
theorem dL_law_413 : decode cL_law 413 = .ok (.iconst 3, 1) := by decide +kernel
theorem dL_law_414 : decode cL_law 414 = .ok (.ishr, 1) := by decide +kernel
theorem dL_law_415 : decode cL_law 415 = .ok (.sipush 999, 3) := by decide +kernel
theorem dL_law_418 : decode cL_law 418 = .ok (.invokestatic 56, 3) := by decide +kernel
theorem dL_law_421 : decode cL_law 421 = .ok (.iconst 2, 1) := by decide +kernel
theorem dL_law_422 : decode cL_law 422 = .ok (.iload 8, 2) := by decide +kernel
theorem dL_law_424 : decode cL_law 424 = .ok (.iconst 4, 1) := by decide +kernel
theorem dL_law_425 : decode cL_law 425 = .ok (.ishr, 1) := by decide +kernel
theorem dL_law_426 : decode cL_law 426 = .ok (.bipush 9, 2) := by decide +kernel
theorem dL_law_428 : decode cL_law 428 = .ok (.invokestatic 56, 3) := by decide +kernel
theorem dL_law_431 : decode cL_law 431 = .ok (.iadd, 1) := by decide +kernel
theorem dL_law_432 : decode cL_law 432 = .ok (.invokevirtual 133, 3) := by decide +kernel
theorem dL_law_435 : decode cL_law 435 = .ok (.pop, 1) := by decide +kernel
theorem dL_law_436 : decode cL_law 436 = .ok (.aload_n 1, 1) := by decide +kernel
theorem dL_law_437 : decode cL_law 437 = .ok (.iload 8, 2) := by decide +kernel
theorem dL_law_439 : decode cL_law 439 = .ok (.iconst 5, 1) := by decide +kernel
theorem dL_law_440 : decode cL_law 440 = .ok (.ishr, 1) := by decide +kernel
theorem dL_law_441 : decode cL_law 441 = .ok (.bipush 90, 2) := by decide +kernel
theorem dL_law_443 : decode cL_law 443 = .ok (.invokestatic 56, 3) := by decide +kernel
theorem dL_law_446 : decode cL_law 446 = .ok (.invokevirtual 136, 3) := by decide +kernel
theorem dL_law_449 : decode cL_law 449 = .ok (.pop, 1) := by decide +kernel
theorem dL_law_450 : decode cL_law 450 = .ok (.iconst 0, 1) := by decide +kernel
theorem dL_law_451 : decode cL_law 451 = .ok (.istore 10, 2) := by decide +kernel
theorem dL_law_453 : decode cL_law 453 = .ok (.iconst 0, 1) := by decide +kernel
theorem dL_law_454 : decode cL_law 454 = .ok (.istore 11, 2) := by decide +kernel
theorem dL_law_456 : decode cL_law 456 = .ok (.iload 11, 2) := by decide +kernel
theorem dL_law_458 : decode cL_law 458 = .ok (.aload_n 1, 1) := by decide +kernel
theorem dL_law_459 : decode cL_law 459 = .ok (.invokevirtual 99, 3) := by decide +kernel
theorem dL_law_462 : decode cL_law 462 = .ok (.if_icmp .ge 65, 3) := by decide +kernel
theorem dL_law_465 : decode cL_law 465 = .ok (.aload_n 1, 1) := by decide +kernel
theorem dL_law_466 : decode cL_law 466 = .ok (.iload 11, 2) := by decide +kernel
theorem dL_law_468 : decode cL_law 468 = .ok (.iconst 1, 1) := by decide +kernel
theorem dL_law_469 : decode cL_law 469 = .ok (.invokevirtual 139, 3) := by decide +kernel
theorem dL_law_472 : decode cL_law 472 = .ok (.istore 12, 2) := by decide +kernel
theorem dL_law_474 : decode cL_law 474 = .ok (.iload 10, 2) := by decide +kernel
theorem dL_law_476 : decode cL_law 476 = .ok (.iload 12, 2) := by decide +kernel
theorem dL_law_478 : decode cL_law 478 = .ok (.aload_n 1, 1) := by decide +kernel
theorem dL_law_479 : decode cL_law 479 = .ok (.iload 11, 2) := by decide +kernel
theorem dL_law_481 : decode cL_law 481 = .ok (.iconst 0, 1) := by decide +kernel
theorem dL_law_482 : decode cL_law 482 = .ok (.invokevirtual 139, 3) := by decide +kernel
theorem dL_law_485 : decode cL_law 485 = .ok (.if_icmp .eq 7, 3) := by decide +kernel
theorem dL_law_488 : decode cL_law 488 = .ok (.iconst 1, 1) := by decide +kernel
theorem dL_law_489 : decode cL_law 489 = .ok (.goto 4, 3) := by decide +kernel
theorem dL_law_492 : decode cL_law 492 = .ok (.iconst 0, 1) := by decide +kernel
theorem dL_law_493 : decode cL_law 493 = .ok (.iadd, 1) := by decide +kernel
theorem dL_law_494 : decode cL_law 494 = .ok (.istore 10, 2) := by decide +kernel
theorem dL_law_496 : decode cL_law 496 = .ok (.iload 12, 2) := by decide +kernel
theorem dL_law_498 : decode cL_law 498 = .ok (.ifCond .lt 21, 3) := by decide +kernel
theorem dL_law_501 : decode cL_law 501 = .ok (.iload 12, 2) := by decide +kernel
theorem dL_law_503 : decode cL_law 503 = .ok (.iconst 2, 1) := by decide +kernel
theorem dL_law_504 : decode cL_law 504 = .ok (.if_icmp .gt 15, 3) := by decide +kernel
theorem dL_law_507 : decode cL_law 507 = .ok (.iload 12, 2) := by decide +kernel
theorem dL_law_509 : decode cL_law 509 = .ok (.iconst 2, 1) := by decide +kernel
theorem dL_law_510 : decode cL_law 510 = .ok (.if_icmp .ne 11, 3) := by decide +kernel
theorem dL_law_513 : decode cL_law 513 = .ok (.iload 9, 2) := by decide +kernel
theorem dL_law_515 : decode cL_law 515 = .ok (.iconst 3, 1) := by decide +kernel
theorem dL_law_516 : decode cL_law 516 = .ok (.if_icmp .eq 5, 3) := by decide +kernel
theorem dL_law_519 : decode cL_law 519 = .ok (.iconst 0, 1) := by decide +kernel
theorem dL_law_520 : decode cL_law 520 = .ok (.ireturn, 1) := by decide +kernel
theorem dL_law_521 : decode cL_law 521 = .ok (.iinc 11 1, 3) := by decide +kernel
theorem dL_law_524 : decode cL_law 524 = .ok (.goto (-68), 3) := by decide +kernel
theorem dL_law_527 : decode cL_law 527 = .ok (.iconst 0, 1) := by decide +kernel
theorem dL_law_528 : decode cL_law 528 = .ok (.istore 11, 2) := by decide +kernel
theorem dL_law_530 : decode cL_law 530 = .ok (.iconst 0, 1) := by decide +kernel
theorem dL_law_531 : decode cL_law 531 = .ok (.istore 12, 2) := by decide +kernel
theorem dL_law_533 : decode cL_law 533 = .ok (.iload 12, 2) := by decide +kernel
theorem dL_law_535 : decode cL_law 535 = .ok (.aload_n 2, 1) := by decide +kernel
theorem dL_law_536 : decode cL_law 536 = .ok (.arraylength, 1) := by decide +kernel
theorem dL_law_537 : decode cL_law 537 = .ok (.if_icmp .ge 52, 3) := by decide +kernel
theorem dL_law_540 : decode cL_law 540 = .ok (.iload 11, 2) := by decide +kernel
theorem dL_law_542 : decode cL_law 542 = .ok (.aload_n 1, 1) := by decide +kernel
theorem dL_law_543 : decode cL_law 543 = .ok (.iload 12, 2) := by decide +kernel
theorem dL_law_545 : decode cL_law 545 = .ok (.iconst 1, 1) := by decide +kernel
theorem dL_law_546 : decode cL_law 546 = .ok (.invokevirtual 142, 3) := by decide +kernel
theorem dL_law_549 : decode cL_law 549 = .ok (.aload_n 1, 1) := by decide +kernel
theorem dL_law_550 : decode cL_law 550 = .ok (.iload 12, 2) := by decide +kernel
theorem dL_law_552 : decode cL_law 552 = .ok (.iconst 0, 1) := by decide +kernel
theorem dL_law_553 : decode cL_law 553 = .ok (.invokevirtual 142, 3) := by decide +kernel
theorem dL_law_556 : decode cL_law 556 = .ok (.if_icmp .eq 7, 3) := by decide +kernel
theorem dL_law_559 : decode cL_law 559 = .ok (.iconst 1, 1) := by decide +kernel
theorem dL_law_560 : decode cL_law 560 = .ok (.goto 4, 3) := by decide +kernel
theorem dL_law_563 : decode cL_law 563 = .ok (.iconst 0, 1) := by decide +kernel
theorem dL_law_564 : decode cL_law 564 = .ok (.iadd, 1) := by decide +kernel
theorem dL_law_565 : decode cL_law 565 = .ok (.istore 11, 2) := by decide +kernel
theorem dL_law_567 : decode cL_law 567 = .ok (.aload_n 1, 1) := by decide +kernel
theorem dL_law_568 : decode cL_law 568 = .ok (.iload 12, 2) := by decide +kernel
theorem dL_law_570 : decode cL_law 570 = .ok (.iconst 0, 1) := by decide +kernel
theorem dL_law_571 : decode cL_law 571 = .ok (.invokevirtual 142, 3) := by decide +kernel
theorem dL_law_574 : decode cL_law 574 = .ok (.aload_n 2, 1) := by decide +kernel
theorem dL_law_575 : decode cL_law 575 = .ok (.iload 12, 2) := by decide +kernel
theorem dL_law_577 : decode cL_law 577 = .ok (.iaload, 1) := by decide +kernel
theorem dL_law_578 : decode cL_law 578 = .ok (.if_icmp .eq 5, 3) := by decide +kernel
theorem dL_law_581 : decode cL_law 581 = .ok (.iconst 0, 1) := by decide +kernel
theorem dL_law_582 : decode cL_law 582 = .ok (.ireturn, 1) := by decide +kernel
theorem dL_law_583 : decode cL_law 583 = .ok (.iinc 12 1, 3) := by decide +kernel
theorem dL_law_586 : decode cL_law 586 = .ok (.goto (-53), 3) := by decide +kernel
theorem dL_law_589 : decode cL_law 589 = .ok (.iconst 0, 1) := by decide +kernel
theorem dL_law_590 : decode cL_law 590 = .ok (.istore 12, 2) := by decide +kernel
theorem dL_law_592 : decode cL_law 592 = .ok (.iconst 0, 1) := by decide +kernel
theorem dL_law_593 : decode cL_law 593 = .ok (.istore 13, 2) := by decide +kernel
theorem dL_law_595 : decode cL_law 595 = .ok (.iload 13, 2) := by decide +kernel
theorem dL_law_597 : decode cL_law 597 = .ok (.aload_n 1, 1) := by decide +kernel
theorem dL_law_598 : decode cL_law 598 = .ok (.invokevirtual 99, 3) := by decide +kernel
theorem dL_law_601 : decode cL_law 601 = .ok (.if_icmp .ge 30, 3) := by decide +kernel
theorem dL_law_604 : decode cL_law 604 = .ok (.iload 12, 2) := by decide +kernel
theorem dL_law_606 : decode cL_law 606 = .ok (.aload_n 1, 1) := by decide +kernel
theorem dL_law_607 : decode cL_law 607 = .ok (.iload 13, 2) := by decide +kernel
theorem dL_law_609 : decode cL_law 609 = .ok (.invokevirtual 145, 3) := by decide +kernel
theorem dL_law_612 : decode cL_law 612 = .ok (.iload 11, 2) := by decide +kernel
theorem dL_law_614 : decode cL_law 614 = .ok (.if_icmp .le 7, 3) := by decide +kernel
theorem dL_law_617 : decode cL_law 617 = .ok (.iconst 1, 1) := by decide +kernel
theorem dL_law_618 : decode cL_law 618 = .ok (.goto 4, 3) := by decide +kernel
theorem dL_law_621 : decode cL_law 621 = .ok (.iconst 0, 1) := by decide +kernel
theorem dL_law_622 : decode cL_law 622 = .ok (.iadd, 1) := by decide +kernel
theorem dL_law_623 : decode cL_law 623 = .ok (.istore 12, 2) := by decide +kernel
theorem dL_law_625 : decode cL_law 625 = .ok (.iinc 13 1, 3) := by decide +kernel
theorem dL_law_628 : decode cL_law 628 = .ok (.goto (-33), 3) := by decide +kernel
theorem dL_law_631 : decode cL_law 631 = .ok (.aload_n 1, 1) := by decide +kernel
theorem dL_law_632 : decode cL_law 632 = .ok (.invokevirtual 124, 3) := by decide +kernel
theorem dL_law_635 : decode cL_law 635 = .ok (.iload 10, 2) := by decide +kernel
theorem dL_law_637 : decode cL_law 637 = .ok (.if_icmp .ne 28, 3) := by decide +kernel
theorem dL_law_640 : decode cL_law 640 = .ok (.aload_n 1, 1) := by decide +kernel
theorem dL_law_641 : decode cL_law 641 = .ok (.invokevirtual 127, 3) := by decide +kernel
theorem dL_law_644 : decode cL_law 644 = .ok (.iload 11, 2) := by decide +kernel
theorem dL_law_646 : decode cL_law 646 = .ok (.if_icmp .ne 19, 3) := by decide +kernel
theorem dL_law_649 : decode cL_law 649 = .ok (.aload_n 1, 1) := by decide +kernel
theorem dL_law_650 : decode cL_law 650 = .ok (.invokevirtual 148, 3) := by decide +kernel
theorem dL_law_653 : decode cL_law 653 = .ok (.iload 12, 2) := by decide +kernel
theorem dL_law_655 : decode cL_law 655 = .ok (.if_icmp .ne 10, 3) := by decide +kernel
theorem dL_law_658 : decode cL_law 658 = .ok (.iload 11, 2) := by decide +kernel
theorem dL_law_660 : decode cL_law 660 = .ok (.aload_n 2, 1) := by decide +kernel
theorem dL_law_661 : decode cL_law 661 = .ok (.arraylength, 1) := by decide +kernel
theorem dL_law_662 : decode cL_law 662 = .ok (.if_icmp .le 5, 3) := by decide +kernel
theorem dL_law_665 : decode cL_law 665 = .ok (.iconst 0, 1) := by decide +kernel
theorem dL_law_666 : decode cL_law 666 = .ok (.ireturn, 1) := by decide +kernel
theorem dL_law_667 : decode cL_law 667 = .ok (.iconst 0, 1) := by decide +kernel
theorem dL_law_668 : decode cL_law 668 = .ok (.istore 13, 2) := by decide +kernel
theorem dL_law_670 : decode cL_law 670 = .ok (.iload 13, 2) := by decide +kernel
theorem dL_law_672 : decode cL_law 672 = .ok (.iload 6, 2) := by decide +kernel
theorem dL_law_674 : decode cL_law 674 = .ok (.if_icmp .ge 59, 3) := by decide +kernel
theorem dL_law_677 : decode cL_law 677 = .ok (.aload_n 1, 1) := by decide +kernel
theorem dL_law_678 : decode cL_law 678 = .ok (.iload 13, 2) := by decide +kernel
theorem dL_law_680 : decode cL_law 680 = .ok (.iconst 3, 1) := by decide +kernel
theorem dL_law_681 : decode cL_law 681 = .ok (.invokevirtual 121, 3) := by decide +kernel
theorem dL_law_684 : decode cL_law 684 = .ok (.ifCond .lt 41, 3) := by decide +kernel
theorem dL_law_687 : decode cL_law 687 = .ok (.aload_n 1, 1) := by decide +kernel
theorem dL_law_688 : decode cL_law 688 = .ok (.iload 13, 2) := by decide +kernel
theorem dL_law_690 : decode cL_law 690 = .ok (.iconst 3, 1) := by decide +kernel
theorem dL_law_691 : decode cL_law 691 = .ok (.invokevirtual 121, 3) := by decide +kernel
theorem dL_law_694 : decode cL_law 694 = .ok (.aload_n 1, 1) := by decide +kernel
theorem dL_law_695 : decode cL_law 695 = .ok (.iload 13, 2) := by decide +kernel
theorem dL_law_697 : decode cL_law 697 = .ok (.iconst 2, 1) := by decide +kernel
theorem dL_law_698 : decode cL_law 698 = .ok (.invokevirtual 121, 3) := by decide +kernel
theorem dL_law_701 : decode cL_law 701 = .ok (.if_icmp .gt 24, 3) := by decide +kernel
theorem dL_law_704 : decode cL_law 704 = .ok (.aload_n 1, 1) := by decide +kernel
theorem dL_law_705 : decode cL_law 705 = .ok (.iload 13, 2) := by decide +kernel
theorem dL_law_707 : decode cL_law 707 = .ok (.iconst 0, 1) := by decide +kernel
theorem dL_law_708 : decode cL_law 708 = .ok (.invokevirtual 121, 3) := by decide +kernel
theorem dL_law_711 : decode cL_law 711 = .ok (.iconst 2, 1) := by decide +kernel
theorem dL_law_712 : decode cL_law 712 = .ok (.if_icmp .eq 15, 3) := by decide +kernel
theorem dL_law_715 : decode cL_law 715 = .ok (.aload_n 1, 1) := by decide +kernel
theorem dL_law_716 : decode cL_law 716 = .ok (.iload 13, 2) := by decide +kernel
theorem dL_law_718 : decode cL_law 718 = .ok (.iconst 4, 1) := by decide +kernel
theorem dL_law_719 : decode cL_law 719 = .ok (.invokevirtual 121, 3) := by decide +kernel
theorem dL_law_722 : decode cL_law 722 = .ok (.ifCond .eq 5, 3) := by decide +kernel
theorem dL_law_725 : decode cL_law 725 = .ok (.iconst 0, 1) := by decide +kernel
theorem dL_law_726 : decode cL_law 726 = .ok (.ireturn, 1) := by decide +kernel
theorem dL_law_727 : decode cL_law 727 = .ok (.iinc 13 1, 3) := by decide +kernel
theorem dL_law_730 : decode cL_law 730 = .ok (.goto (-60), 3) := by decide +kernel
theorem dL_law_733 : decode cL_law 733 = .ok (.aload_n 1, 1) := by decide +kernel
theorem dL_law_734 : decode cL_law 734 = .ok (.iconst 0, 1) := by decide +kernel
theorem dL_law_735 : decode cL_law 735 = .ok (.iconst 5, 1) := by decide +kernel
theorem dL_law_736 : decode cL_law 736 = .ok (.invokevirtual 151, 3) := by decide +kernel
theorem dL_law_739 : decode cL_law 739 = .ok (.dstore 13, 2) := by decide +kernel
theorem dL_law_741 : decode cL_law 741 = .ok (.dload 13, 2) := by decide +kernel
theorem dL_law_743 : decode cL_law 743 = .ok (.dconst 0, 1) := by decide +kernel
theorem dL_law_744 : decode cL_law 744 = .ok (.dcmp .g, 1) := by decide +kernel
theorem dL_law_745 : decode cL_law 745 = .ok (.ifCond .lt 12, 3) := by decide +kernel
theorem dL_law_748 : decode cL_law 748 = .ok (.dload 13, 2) := by decide +kernel
theorem dL_law_750 : decode cL_law 750 = .ok (.aload_n 2, 1) := by decide +kernel
theorem dL_law_751 : decode cL_law 751 = .ok (.arraylength, 1) := by decide +kernel
theorem dL_law_752 : decode cL_law 752 = .ok (.i2d, 1) := by decide +kernel
theorem dL_law_753 : decode cL_law 753 = .ok (.dcmp .l, 1) := by decide +kernel
theorem dL_law_754 : decode cL_law 754 = .ok (.ifCond .le 5, 3) := by decide +kernel
theorem dL_law_757 : decode cL_law 757 = .ok (.iconst 0, 1) := by decide +kernel
theorem dL_law_758 : decode cL_law 758 = .ok (.ireturn, 1) := by decide +kernel
theorem dL_law_759 : decode cL_law 759 = .ok (.iinc 7 1, 3) := by decide +kernel
theorem dL_law_762 : decode cL_law 762 = .ok (.goto (-416), 3) := by decide +kernel
theorem dL_law_765 : decode cL_law 765 = .ok (.iload 6, 2) := by decide +kernel
theorem dL_law_767 : decode cL_law 767 = .ok (.ifCond .eq 41, 3) := by decide +kernel
theorem dL_law_770 : decode cL_law 770 = .ok (.aload_n 1, 1) := by decide +kernel
theorem dL_law_771 : decode cL_law 771 = .ok (.invokevirtual 155, 3) := by decide +kernel
theorem dL_law_774 : decode cL_law 774 = .ok (.iload 6, 2) := by decide +kernel
theorem dL_law_776 : decode cL_law 776 = .ok (.iconst 1, 1) := by decide +kernel
theorem dL_law_777 : decode cL_law 777 = .ok (.isub, 1) := by decide +kernel
theorem dL_law_778 : decode cL_law 778 = .ok (.if_icmp .ne 34, 3) := by decide +kernel
theorem dL_law_781 : decode cL_law 781 = .ok (.aload_n 1, 1) := by decide +kernel
theorem dL_law_782 : decode cL_law 782 = .ok (.invokevirtual 99, 3) := by decide +kernel
theorem dL_law_785 : decode cL_law 785 = .ok (.iload 6, 2) := by decide +kernel
theorem dL_law_787 : decode cL_law 787 = .ok (.iconst 1, 1) := by decide +kernel
theorem dL_law_788 : decode cL_law 788 = .ok (.if_icmp .ne 8, 3) := by decide +kernel
theorem dL_law_791 : decode cL_law 791 = .ok (.aload_n 2, 1) := by decide +kernel
theorem dL_law_792 : decode cL_law 792 = .ok (.arraylength, 1) := by decide +kernel
theorem dL_law_793 : decode cL_law 793 = .ok (.goto 12, 3) := by decide +kernel
theorem dL_law_796 : decode cL_law 796 = .ok (.aload_n 1, 1) := by decide +kernel
theorem dL_law_797 : decode cL_law 797 = .ok (.iload 6, 2) := by decide +kernel
theorem dL_law_799 : decode cL_law 799 = .ok (.iconst 2, 1) := by decide +kernel
theorem dL_law_800 : decode cL_law 800 = .ok (.isub, 1) := by decide +kernel
theorem dL_law_801 : decode cL_law 801 = .ok (.iconst 2, 1) := by decide +kernel
theorem dL_law_802 : decode cL_law 802 = .ok (.invokevirtual 121, 3) := by decide +kernel
theorem dL_law_805 : decode cL_law 805 = .ok (.if_icmp .ne 7, 3) := by decide +kernel
theorem dL_law_808 : decode cL_law 808 = .ok (.iconst 1, 1) := by decide +kernel
theorem dL_law_809 : decode cL_law 809 = .ok (.goto 4, 3) := by decide +kernel
theorem dL_law_812 : decode cL_law 812 = .ok (.iconst 0, 1) := by decide +kernel
theorem dL_law_813 : decode cL_law 813 = .ok (.ireturn, 1) := by decide +kernel
