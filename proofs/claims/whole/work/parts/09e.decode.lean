theorem d_M_needed_100 : decode b_M_needed 100 = .ok (.iinc 2 1, 3) := by decide +kernel
theorem d_M_needed_103 : decode b_M_needed 103 = .ok (.goto (-99), 3) := by decide +kernel
theorem d_M_needed_106 : decode b_M_needed 106 = .ok (.aload_n 0, 1) := by decide +kernel
theorem d_M_needed_107 : decode b_M_needed 107 = .ok (.iload_n 1, 1) := by decide +kernel
theorem d_M_needed_108 : decode b_M_needed 108 = .ok (.invokestatic 219, 3) := by decide +kernel
theorem d_M_needed_111 : decode b_M_needed 111 = .ok (.iload_n 1, 1) := by decide +kernel
theorem d_M_needed_112 : decode b_M_needed 112 = .ok (.invokevirtual 121, 3) := by decide +kernel
theorem d_M_needed_115 : decode b_M_needed 115 = .ok (.ireturn, 1) := by decide +kernel
theorem d_M_bits_0 : decode b_M_bits 0 = .ok (.iconst 0, 1) := by decide +kernel
theorem d_M_bits_1 : decode b_M_bits 1 = .ok (.istore_n 1, 1) := by decide +kernel
theorem d_M_bits_2 : decode b_M_bits 2 = .ok (.iload_n 0, 1) := by decide +kernel
theorem d_M_bits_3 : decode b_M_bits 3 = .ok (.istore_n 2, 1) := by decide +kernel
theorem d_M_bits_4 : decode b_M_bits 4 = .ok (.iload_n 2, 1) := by decide +kernel
theorem d_M_bits_5 : decode b_M_bits 5 = .ok (.ifCond .eq 15, 3) := by decide +kernel
theorem d_M_bits_8 : decode b_M_bits 8 = .ok (.iinc 1 1, 3) := by decide +kernel
theorem d_M_bits_11 : decode b_M_bits 11 = .ok (.iload_n 2, 1) := by decide +kernel
theorem d_M_bits_12 : decode b_M_bits 12 = .ok (.iload_n 2, 1) := by decide +kernel
theorem d_M_bits_13 : decode b_M_bits 13 = .ok (.iconst 1, 1) := by decide +kernel
theorem d_M_bits_14 : decode b_M_bits 14 = .ok (.isub, 1) := by decide +kernel
theorem d_M_bits_15 : decode b_M_bits 15 = .ok (.iand, 1) := by decide +kernel
theorem d_M_bits_16 : decode b_M_bits 16 = .ok (.istore_n 2, 1) := by decide +kernel
theorem d_M_bits_17 : decode b_M_bits 17 = .ok (.goto (-13), 3) := by decide +kernel
theorem d_M_bits_20 : decode b_M_bits 20 = .ok (.iload_n 1, 1) := by decide +kernel
theorem d_M_bits_21 : decode b_M_bits 21 = .ok (.ireturn, 1) := by decide +kernel
theorem d_M_common_0 : decode b_M_common 0 = .ok (.aload_n 0, 1) := by decide +kernel
theorem d_M_common_1 : decode b_M_common 1 = .ok (.aload_n 0, 1) := by decide +kernel
theorem d_M_common_2 : decode b_M_common 2 = .ok (.getfield 35, 3) := by decide +kernel
theorem d_M_common_5 : decode b_M_common 5 = .ok (.aload_n 0, 1) := by decide +kernel
theorem d_M_common_6 : decode b_M_common 6 = .ok (.getfield 178, 3) := by decide +kernel
theorem d_M_common_9 : decode b_M_common 9 = .ok (.invokevirtual 206, 3) := by decide +kernel
theorem d_M_common_12 : decode b_M_common 12 = .ok (.ireturn, 1) := by decide +kernel
theorem d_M_from_0 : decode b_M_from 0 = .ok (.aload_n 0, 1) := by decide +kernel
theorem d_M_from_1 : decode b_M_from 1 = .ok (.invokevirtual 213, 3) := by decide +kernel
theorem d_M_from_4 : decode b_M_from 4 = .ok (.ifCond .eq 8, 3) := by decide +kernel
theorem d_M_from_7 : decode b_M_from 7 = .ok (.bipush (-9), 2) := by decide +kernel
theorem d_M_from_9 : decode b_M_from 9 = .ok (.goto 9, 3) := by decide +kernel
theorem d_M_from_12 : decode b_M_from 12 = .ok (.aload_n 0, 1) := by decide +kernel
theorem d_M_from_13 : decode b_M_from 13 = .ok (.invokevirtual 216, 3) := by decide +kernel
theorem d_M_from_16 : decode b_M_from 16 = .ok (.iconst 1, 1) := by decide +kernel
theorem d_M_from_17 : decode b_M_from 17 = .ok (.iadd, 1) := by decide +kernel
theorem d_M_from_18 : decode b_M_from 18 = .ok (.ireturn, 1) := by decide +kernel
theorem d_M_wish_0 : decode b_M_wish 0 = .ok (.iload_n 1, 1) := by decide +kernel
theorem d_M_wish_1 : decode b_M_wish 1 = .ok (.iconst 1, 1) := by decide +kernel
theorem d_M_wish_2 : decode b_M_wish 2 = .ok (.sipush 4000, 3) := by decide +kernel
theorem d_M_wish_5 : decode b_M_wish 5 = .ok (.invokestatic 96, 3) := by decide +kernel
theorem d_M_wish_8 : decode b_M_wish 8 = .ok (.ifCond .ne 5, 3) := by decide +kernel
theorem d_M_wish_11 : decode b_M_wish 11 = .ok (.iconst (-1), 1) := by decide +kernel
theorem d_M_wish_12 : decode b_M_wish 12 = .ok (.ireturn, 1) := by decide +kernel
theorem d_M_wish_13 : decode b_M_wish 13 = .ok (.aload_n 0, 1) := by decide +kernel
theorem d_M_wish_14 : decode b_M_wish 14 = .ok (.getfield 172, 3) := by decide +kernel
theorem d_M_wish_17 : decode b_M_wish 17 = .ok (.ifCond .ne 19, 3) := by decide +kernel
theorem d_M_wish_20 : decode b_M_wish 20 = .ok (.aload_n 0, 1) := by decide +kernel
theorem d_M_wish_21 : decode b_M_wish 21 = .ok (.aload_n 0, 1) := by decide +kernel
theorem d_M_wish_22 : decode b_M_wish 22 = .ok (.getfield 35, 3) := by decide +kernel
theorem d_M_wish_25 : decode b_M_wish 25 = .ok (.aload_n 0, 1) := by decide +kernel
theorem d_M_wish_26 : decode b_M_wish 26 = .ok (.getfield 178, 3) := by decide +kernel
theorem d_M_wish_29 : decode b_M_wish 29 = .ok (.iload_n 1, 1) := by decide +kernel
theorem d_M_wish_30 : decode b_M_wish 30 = .ok (.invokevirtual 222, 3) := by decide +kernel
theorem d_M_wish_33 : decode b_M_wish 33 = .ok (.ifCond .eq 6, 3) := by decide +kernel
theorem d_M_wish_36 : decode b_M_wish 36 = .ok (.bipush (-4), 2) := by decide +kernel
theorem d_M_wish_38 : decode b_M_wish 38 = .ok (.ireturn, 1) := by decide +kernel
theorem d_M_wish_39 : decode b_M_wish 39 = .ok (.bipush (-9), 2) := by decide +kernel
theorem d_M_wish_41 : decode b_M_wish 41 = .ok (.istore_n 2, 1) := by decide +kernel
theorem d_M_wish_42 : decode b_M_wish 42 = .ok (.iconst 0, 1) := by decide +kernel
theorem d_M_wish_43 : decode b_M_wish 43 = .ok (.istore_n 3, 1) := by decide +kernel
theorem d_M_wish_44 : decode b_M_wish 44 = .ok (.aload_n 0, 1) := by decide +kernel
theorem d_M_wish_45 : decode b_M_wish 45 = .ok (.invokevirtual 226, 3) := by decide +kernel
theorem d_M_wish_48 : decode b_M_wish 48 = .ok (.iconst 2, 1) := by decide +kernel
theorem d_M_wish_49 : decode b_M_wish 49 = .ok (.istore 4, 2) := by decide +kernel
theorem d_M_wish_51 : decode b_M_wish 51 = .ok (.iload 4, 2) := by decide +kernel
theorem d_M_wish_53 : decode b_M_wish 53 = .ok (.bipush 60, 2) := by decide +kernel
theorem d_M_wish_55 : decode b_M_wish 55 = .ok (.if_icmp .gt 61, 3) := by decide +kernel
theorem d_M_wish_58 : decode b_M_wish 58 = .ok (.aload_n 0, 1) := by decide +kernel
theorem d_M_wish_59 : decode b_M_wish 59 = .ok (.iload 4, 2) := by decide +kernel
theorem d_M_wish_61 : decode b_M_wish 61 = .ok (.invokevirtual 199, 3) := by decide +kernel
theorem d_M_wish_64 : decode b_M_wish 64 = .ok (.ifCond .eq 46, 3) := by decide +kernel
theorem d_M_wish_67 : decode b_M_wish 67 = .ok (.aload_n 0, 1) := by decide +kernel
theorem d_M_wish_68 : decode b_M_wish 68 = .ok (.getfield 60, 3) := by decide +kernel
theorem d_M_wish_71 : decode b_M_wish 71 = .ok (.aload_n 0, 1) := by decide +kernel
theorem d_M_wish_72 : decode b_M_wish 72 = .ok (.getfield 178, 3) := by decide +kernel
theorem d_M_wish_75 : decode b_M_wish 75 = .ok (.iload 4, 2) := by decide +kernel
theorem d_M_wish_77 : decode b_M_wish 77 = .ok (.iastore, 1) := by decide +kernel
theorem d_M_wish_78 : decode b_M_wish 78 = .ok (.aload_n 0, 1) := by decide +kernel
theorem d_M_wish_79 : decode b_M_wish 79 = .ok (.aload_n 0, 1) := by decide +kernel
theorem d_M_wish_80 : decode b_M_wish 80 = .ok (.getfield 60, 3) := by decide +kernel
theorem d_M_wish_83 : decode b_M_wish 83 = .ok (.aload_n 0, 1) := by decide +kernel
theorem d_M_wish_84 : decode b_M_wish 84 = .ok (.getfield 178, 3) := by decide +kernel
theorem d_M_wish_87 : decode b_M_wish 87 = .ok (.iconst 1, 1) := by decide +kernel
theorem d_M_wish_88 : decode b_M_wish 88 = .ok (.iadd, 1) := by decide +kernel
theorem d_M_wish_89 : decode b_M_wish 89 = .ok (.iload_n 1, 1) := by decide +kernel
theorem d_M_wish_90 : decode b_M_wish 90 = .ok (.invokevirtual 222, 3) := by decide +kernel
theorem d_M_wish_93 : decode b_M_wish 93 = .ok (.ifCond .eq 17, 3) := by decide +kernel
theorem d_M_wish_96 : decode b_M_wish 96 = .ok (.iload_n 3, 1) := by decide +kernel
theorem d_M_wish_97 : decode b_M_wish 97 = .ok (.ifCond .ne 8, 3) := by decide +kernel
theorem d_M_wish_100 : decode b_M_wish 100 = .ok (.iload 4, 2) := by decide +kernel
theorem d_M_wish_102 : decode b_M_wish 102 = .ok (.goto 4, 3) := by decide +kernel
theorem d_M_wish_105 : decode b_M_wish 105 = .ok (.iload_n 2, 1) := by decide +kernel
theorem d_M_wish_106 : decode b_M_wish 106 = .ok (.istore_n 2, 1) := by decide +kernel
theorem d_M_wish_107 : decode b_M_wish 107 = .ok (.iinc 3 1, 3) := by decide +kernel
theorem d_M_wish_110 : decode b_M_wish 110 = .ok (.iinc 4 1, 3) := by decide +kernel
theorem d_M_wish_113 : decode b_M_wish 113 = .ok (.goto (-62), 3) := by decide +kernel
theorem d_M_wish_116 : decode b_M_wish 116 = .ok (.iload_n 2, 1) := by decide +kernel
theorem d_M_wish_117 : decode b_M_wish 117 = .ok (.bipush (-9), 2) := by decide +kernel
theorem d_M_wish_119 : decode b_M_wish 119 = .ok (.if_icmp .ne 8, 3) := by decide +kernel
theorem d_M_wish_122 : decode b_M_wish 122 = .ok (.bipush (-9), 2) := by decide +kernel
theorem d_M_wish_124 : decode b_M_wish 124 = .ok (.goto 9, 3) := by decide +kernel
theorem d_M_wish_127 : decode b_M_wish 127 = .ok (.aload_n 0, 1) := by decide +kernel
theorem d_M_wish_128 : decode b_M_wish 128 = .ok (.iload_n 3, 1) := by decide +kernel
theorem d_M_wish_129 : decode b_M_wish 129 = .ok (.iload_n 2, 1) := by decide +kernel
theorem d_M_wish_130 : decode b_M_wish 130 = .ok (.invokevirtual 121, 3) := by decide +kernel
theorem d_M_wish_133 : decode b_M_wish 133 = .ok (.ireturn, 1) := by decide +kernel
theorem d_M_areAll_0 : decode b_M_areAll 0 = .ok (.aload_n 0, 1) := by decide +kernel
theorem d_M_areAll_1 : decode b_M_areAll 1 = .ok (.aload_n 1, 1) := by decide +kernel
theorem d_M_areAll_2 : decode b_M_areAll 2 = .ok (.iload_n 2, 1) := by decide +kernel
theorem d_M_areAll_3 : decode b_M_areAll 3 = .ok (.invokevirtual 206, 3) := by decide +kernel
theorem d_M_areAll_6 : decode b_M_areAll 6 = .ok (.iconst 1, 1) := by decide +kernel
theorem d_M_areAll_7 : decode b_M_areAll 7 = .ok (.if_icmp .eq 5, 3) := by decide +kernel
theorem d_M_areAll_10 : decode b_M_areAll 10 = .ok (.iconst 0, 1) := by decide +kernel
theorem d_M_areAll_11 : decode b_M_areAll 11 = .ok (.ireturn, 1) := by decide +kernel
theorem d_M_areAll_12 : decode b_M_areAll 12 = .ok (.aload_n 0, 1) := by decide +kernel
theorem d_M_areAll_13 : decode b_M_areAll 13 = .ok (.aload_n 1, 1) := by decide +kernel
theorem d_M_areAll_14 : decode b_M_areAll 14 = .ok (.iload_n 2, 1) := by decide +kernel
theorem d_M_areAll_15 : decode b_M_areAll 15 = .ok (.iconst 0, 1) := by decide +kernel
theorem d_M_areAll_16 : decode b_M_areAll 16 = .ok (.sipush 4000, 3) := by decide +kernel
theorem d_M_areAll_19 : decode b_M_areAll 19 = .ok (.invokevirtual 131, 3) := by decide +kernel
theorem d_M_areAll_22 : decode b_M_areAll 22 = .ok (.iconst 1, 1) := by decide +kernel
theorem d_M_areAll_23 : decode b_M_areAll 23 = .ok (.istore 4, 2) := by decide +kernel
theorem d_M_areAll_25 : decode b_M_areAll 25 = .ok (.iload_n 3, 1) := by decide +kernel
theorem d_M_areAll_26 : decode b_M_areAll 26 = .ok (.istore 5, 2) := by decide +kernel
theorem d_M_areAll_28 : decode b_M_areAll 28 = .ok (.iload 5, 2) := by decide +kernel
theorem d_M_areAll_30 : decode b_M_areAll 30 = .ok (.sipush 4000, 3) := by decide +kernel
theorem d_M_areAll_33 : decode b_M_areAll 33 = .ok (.if_icmp .gt 30, 3) := by decide +kernel
theorem d_M_areAll_36 : decode b_M_areAll 36 = .ok (.iload 4, 2) := by decide +kernel
theorem d_M_areAll_38 : decode b_M_areAll 38 = .ok (.ifCond .eq 16, 3) := by decide +kernel
theorem d_M_areAll_41 : decode b_M_areAll 41 = .ok (.aload_n 0, 1) := by decide +kernel
theorem d_M_areAll_42 : decode b_M_areAll 42 = .ok (.iload 5, 2) := by decide +kernel
theorem d_M_areAll_44 : decode b_M_areAll 44 = .ok (.invokevirtual 135, 3) := by decide +kernel
theorem d_M_areAll_47 : decode b_M_areAll 47 = .ok (.ifCond .eq 7, 3) := by decide +kernel
theorem d_M_areAll_50 : decode b_M_areAll 50 = .ok (.iconst 1, 1) := by decide +kernel
theorem d_M_areAll_51 : decode b_M_areAll 51 = .ok (.goto 4, 3) := by decide +kernel
theorem d_M_areAll_54 : decode b_M_areAll 54 = .ok (.iconst 0, 1) := by decide +kernel
theorem d_M_areAll_55 : decode b_M_areAll 55 = .ok (.istore 4, 2) := by decide +kernel
theorem d_M_areAll_57 : decode b_M_areAll 57 = .ok (.iinc 5 1, 3) := by decide +kernel
theorem d_M_areAll_60 : decode b_M_areAll 60 = .ok (.goto (-32), 3) := by decide +kernel
theorem d_M_areAll_63 : decode b_M_areAll 63 = .ok (.iload 4, 2) := by decide +kernel
theorem d_M_areAll_65 : decode b_M_areAll 65 = .ok (.ireturn, 1) := by decide +kernel
theorem d_M_layOthers_0 : decode b_M_layOthers 0 = .ok (.iconst 0, 1) := by decide +kernel
theorem d_M_layOthers_1 : decode b_M_layOthers 1 = .ok (.istore_n 1, 1) := by decide +kernel
theorem d_M_layOthers_2 : decode b_M_layOthers 2 = .ok (.iload_n 1, 1) := by decide +kernel
theorem d_M_layOthers_3 : decode b_M_layOthers 3 = .ok (.aload_n 0, 1) := by decide +kernel
theorem d_M_layOthers_4 : decode b_M_layOthers 4 = .ok (.getfield 178, 3) := by decide +kernel
theorem d_M_layOthers_7 : decode b_M_layOthers 7 = .ok (.if_icmp .ge 21, 3) := by decide +kernel
theorem d_M_layOthers_10 : decode b_M_layOthers 10 = .ok (.aload_n 0, 1) := by decide +kernel
theorem d_M_layOthers_11 : decode b_M_layOthers 11 = .ok (.getfield 60, 3) := by decide +kernel
theorem d_M_layOthers_14 : decode b_M_layOthers 14 = .ok (.iload_n 1, 1) := by decide +kernel
theorem d_M_layOthers_15 : decode b_M_layOthers 15 = .ok (.aload_n 0, 1) := by decide +kernel
theorem d_M_layOthers_16 : decode b_M_layOthers 16 = .ok (.getfield 35, 3) := by decide +kernel
theorem d_M_layOthers_19 : decode b_M_layOthers 19 = .ok (.iload_n 1, 1) := by decide +kernel
theorem d_M_layOthers_20 : decode b_M_layOthers 20 = .ok (.iaload, 1) := by decide +kernel
theorem d_M_layOthers_21 : decode b_M_layOthers 21 = .ok (.iastore, 1) := by decide +kernel
theorem d_M_layOthers_22 : decode b_M_layOthers 22 = .ok (.iinc 1 1, 3) := by decide +kernel
theorem d_M_layOthers_25 : decode b_M_layOthers 25 = .ok (.goto (-23), 3) := by decide +kernel
theorem d_M_layOthers_28 : decode b_M_layOthers 28 = .ok (.return_, 1) := by decide +kernel
theorem d_M_whose_0 : decode b_M_whose 0 = .ok (.aload_n 0, 1) := by decide +kernel
theorem d_M_whose_1 : decode b_M_whose 1 = .ok (.invokevirtual 251, 3) := by decide +kernel
theorem d_M_whose_4 : decode b_M_whose 4 = .ok (.istore_n 1, 1) := by decide +kernel
theorem d_M_whose_5 : decode b_M_whose 5 = .ok (.iload_n 1, 1) := by decide +kernel
theorem d_M_whose_6 : decode b_M_whose 6 = .ok (.ifCond .ge 7, 3) := by decide +kernel
theorem d_M_whose_9 : decode b_M_whose 9 = .ok (.iload_n 1, 1) := by decide +kernel
theorem d_M_whose_10 : decode b_M_whose 10 = .ok (.goto 28, 3) := by decide +kernel
theorem d_M_whose_13 : decode b_M_whose 13 = .ok (.aload_n 0, 1) := by decide +kernel
theorem d_M_whose_14 : decode b_M_whose 14 = .ok (.aload_n 0, 1) := by decide +kernel
theorem d_M_whose_15 : decode b_M_whose 15 = .ok (.invokevirtual 254, 3) := by decide +kernel
theorem d_M_whose_18 : decode b_M_whose 18 = .ok (.aload_n 0, 1) := by decide +kernel
theorem d_M_whose_19 : decode b_M_whose 19 = .ok (.getfield 69, 3) := by decide +kernel
theorem d_M_whose_22 : decode b_M_whose 22 = .ok (.aload_n 0, 1) := by decide +kernel
theorem d_M_whose_23 : decode b_M_whose 23 = .ok (.invokevirtual 239, 3) := by decide +kernel
theorem d_M_whose_26 : decode b_M_whose 26 = .ok (.baload, 1) := by decide +kernel
theorem d_M_whose_27 : decode b_M_whose 27 = .ok (.ifCond .eq 7, 3) := by decide +kernel
theorem d_M_whose_30 : decode b_M_whose 30 = .ok (.iconst 1, 1) := by decide +kernel
theorem d_M_whose_31 : decode b_M_whose 31 = .ok (.goto 4, 3) := by decide +kernel
theorem d_M_whose_34 : decode b_M_whose 34 = .ok (.iconst 0, 1) := by decide +kernel
theorem d_M_whose_35 : decode b_M_whose 35 = .ok (.invokevirtual 121, 3) := by decide +kernel
theorem d_M_whose_38 : decode b_M_whose 38 = .ok (.ireturn, 1) := by decide +kernel
theorem d_M_needSolved_0 : decode b_M_needSolved 0 = .ok (.aload_n 0, 1) := by decide +kernel
theorem d_M_needSolved_1 : decode b_M_needSolved 1 = .ok (.getfield 172, 3) := by decide +kernel
theorem d_M_needSolved_4 : decode b_M_needSolved 4 = .ok (.ifCond .ne 10, 3) := by decide +kernel
theorem d_M_needSolved_7 : decode b_M_needSolved 7 = .ok (.aload_n 0, 1) := by decide +kernel
theorem d_M_needSolved_8 : decode b_M_needSolved 8 = .ok (.invokevirtual 196, 3) := by decide +kernel
theorem d_M_needSolved_11 : decode b_M_needSolved 11 = .ok (.ifCond .eq 6, 3) := by decide +kernel
theorem d_M_needSolved_14 : decode b_M_needSolved 14 = .ok (.bipush (-4), 2) := by decide +kernel
theorem d_M_needSolved_16 : decode b_M_needSolved 16 = .ok (.ireturn, 1) := by decide +kernel
theorem d_M_needSolved_17 : decode b_M_needSolved 17 = .ok (.aload_n 0, 1) := by decide +kernel
theorem d_M_needSolved_18 : decode b_M_needSolved 18 = .ok (.invokevirtual 245, 3) := by decide +kernel
theorem d_M_needSolved_21 : decode b_M_needSolved 21 = .ok (.ifCond .ne 6, 3) := by decide +kernel
theorem d_M_needSolved_24 : decode b_M_needSolved 24 = .ok (.bipush (-6), 2) := by decide +kernel
theorem d_M_needSolved_26 : decode b_M_needSolved 26 = .ok (.ireturn, 1) := by decide +kernel
theorem d_M_needSolved_27 : decode b_M_needSolved 27 = .ok (.aload_n 0, 1) := by decide +kernel
theorem d_M_needSolved_28 : decode b_M_needSolved 28 = .ok (.invokevirtual 248, 3) := by decide +kernel
theorem d_M_needSolved_31 : decode b_M_needSolved 31 = .ok (.iconst 0, 1) := by decide +kernel
theorem d_M_needSolved_32 : decode b_M_needSolved 32 = .ok (.ireturn, 1) := by decide +kernel
theorem d_M_isSolved_0 : decode b_M_isSolved 0 = .ok (.aload_n 0, 1) := by decide +kernel
theorem d_M_isSolved_1 : decode b_M_isSolved 1 = .ok (.getfield 172, 3) := by decide +kernel
theorem d_M_isSolved_4 : decode b_M_isSolved 4 = .ok (.ifCond .ne 10, 3) := by decide +kernel
theorem d_M_isSolved_7 : decode b_M_isSolved 7 = .ok (.aload_n 0, 1) := by decide +kernel
theorem d_M_isSolved_8 : decode b_M_isSolved 8 = .ok (.invokevirtual 213, 3) := by decide +kernel
theorem d_M_isSolved_11 : decode b_M_isSolved 11 = .ok (.ifCond .eq 5, 3) := by decide +kernel
theorem d_M_isSolved_14 : decode b_M_isSolved 14 = .ok (.iconst 0, 1) := by decide +kernel
theorem d_M_isSolved_15 : decode b_M_isSolved 15 = .ok (.ireturn, 1) := by decide +kernel
theorem d_M_isSolved_16 : decode b_M_isSolved 16 = .ok (.aload_n 0, 1) := by decide +kernel
theorem d_M_isSolved_17 : decode b_M_isSolved 17 = .ok (.invokevirtual 216, 3) := by decide +kernel
theorem d_M_isSolved_20 : decode b_M_isSolved 20 = .ok (.pop, 1) := by decide +kernel
theorem d_M_isSolved_21 : decode b_M_isSolved 21 = .ok (.aload_n 0, 1) := by decide +kernel
theorem d_M_isSolved_22 : decode b_M_isSolved 22 = .ok (.getfield 210, 3) := by decide +kernel
theorem d_M_isSolved_25 : decode b_M_isSolved 25 = .ok (.bipush 14, 2) := by decide +kernel
theorem d_M_isSolved_27 : decode b_M_isSolved 27 = .ok (.if_icmp .gt 7, 3) := by decide +kernel
theorem d_M_isSolved_30 : decode b_M_isSolved 30 = .ok (.iconst 1, 1) := by decide +kernel
theorem d_M_isSolved_31 : decode b_M_isSolved 31 = .ok (.goto 4, 3) := by decide +kernel
theorem d_M_isSolved_34 : decode b_M_isSolved 34 = .ok (.iconst 0, 1) := by decide +kernel
theorem d_M_isSolved_35 : decode b_M_isSolved 35 = .ok (.ireturn, 1) := by decide +kernel
theorem d_M_layWins_0 : decode b_M_layWins 0 = .ok (.iconst 0, 1) := by decide +kernel
theorem d_M_layWins_1 : decode b_M_layWins 1 = .ok (.istore_n 1, 1) := by decide +kernel
theorem d_M_layWins_2 : decode b_M_layWins 2 = .ok (.iconst 1, 1) := by decide +kernel
theorem d_M_layWins_3 : decode b_M_layWins 3 = .ok (.istore_n 2, 1) := by decide +kernel
theorem d_M_layWins_4 : decode b_M_layWins 4 = .ok (.iload_n 2, 1) := by decide +kernel
theorem d_M_layWins_5 : decode b_M_layWins 5 = .ok (.bipush 60, 2) := by decide +kernel
theorem d_M_layWins_7 : decode b_M_layWins 7 = .ok (.if_icmp .gt 46, 3) := by decide +kernel
theorem d_M_layWins_10 : decode b_M_layWins 10 = .ok (.aload_n 0, 1) := by decide +kernel
theorem d_M_layWins_11 : decode b_M_layWins 11 = .ok (.getfield 66, 3) := by decide +kernel
theorem d_M_layWins_14 : decode b_M_layWins 14 = .ok (.iload_n 2, 1) := by decide +kernel
theorem d_M_layWins_15 : decode b_M_layWins 15 = .ok (.aload_n 0, 1) := by decide +kernel
theorem d_M_layWins_16 : decode b_M_layWins 16 = .ok (.iload_n 2, 1) := by decide +kernel
theorem d_M_layWins_17 : decode b_M_layWins 17 = .ok (.invokevirtual 135, 3) := by decide +kernel
theorem d_M_layWins_20 : decode b_M_layWins 20 = .ok (.ifCond .eq 7, 3) := by decide +kernel
theorem d_M_layWins_23 : decode b_M_layWins 23 = .ok (.iconst (-1), 1) := by decide +kernel
theorem d_M_layWins_24 : decode b_M_layWins 24 = .ok (.goto 4, 3) := by decide +kernel
theorem d_M_layWins_27 : decode b_M_layWins 27 = .ok (.iload_n 1, 1) := by decide +kernel
theorem d_M_layWins_28 : decode b_M_layWins 28 = .ok (.iastore, 1) := by decide +kernel
theorem d_M_layWins_29 : decode b_M_layWins 29 = .ok (.aload_n 0, 1) := by decide +kernel
theorem d_M_layWins_30 : decode b_M_layWins 30 = .ok (.iload_n 2, 1) := by decide +kernel
theorem d_M_layWins_31 : decode b_M_layWins 31 = .ok (.invokevirtual 135, 3) := by decide +kernel
theorem d_M_layWins_34 : decode b_M_layWins 34 = .ok (.ifCond .ne 13, 3) := by decide +kernel
theorem d_M_layWins_37 : decode b_M_layWins 37 = .ok (.aload_n 0, 1) := by decide +kernel
theorem d_M_layWins_38 : decode b_M_layWins 38 = .ok (.getfield 63, 3) := by decide +kernel
theorem d_M_layWins_41 : decode b_M_layWins 41 = .ok (.iload_n 1, 1) := by decide +kernel
theorem d_M_layWins_42 : decode b_M_layWins 42 = .ok (.iload_n 2, 1) := by decide +kernel
theorem d_M_layWins_43 : decode b_M_layWins 43 = .ok (.iastore, 1) := by decide +kernel
theorem d_M_layWins_44 : decode b_M_layWins 44 = .ok (.iinc 1 1, 3) := by decide +kernel
theorem d_M_layWins_47 : decode b_M_layWins 47 = .ok (.iinc 2 1, 3) := by decide +kernel
theorem d_M_layWins_50 : decode b_M_layWins 50 = .ok (.goto (-46), 3) := by decide +kernel
theorem d_M_layWins_53 : decode b_M_layWins 53 = .ok (.iconst 0, 1) := by decide +kernel
theorem d_M_layWins_54 : decode b_M_layWins 54 = .ok (.istore_n 2, 1) := by decide +kernel
theorem d_M_layWins_55 : decode b_M_layWins 55 = .ok (.iload_n 2, 1) := by decide +kernel
theorem d_M_layWins_56 : decode b_M_layWins 56 = .ok (.iconst 1, 1) := by decide +kernel
theorem d_M_layWins_57 : decode b_M_layWins 57 = .ok (.aload_n 0, 1) := by decide +kernel
theorem d_M_layWins_58 : decode b_M_layWins 58 = .ok (.getfield 210, 3) := by decide +kernel
theorem d_M_layWins_61 : decode b_M_layWins 61 = .ok (.ishl, 1) := by decide +kernel
theorem d_M_layWins_62 : decode b_M_layWins 62 = .ok (.if_icmp .ge 188, 3) := by decide +kernel
theorem d_M_layWins_65 : decode b_M_layWins 65 = .ok (.aload_n 0, 1) := by decide +kernel
theorem d_M_layWins_66 : decode b_M_layWins 66 = .ok (.getfield 69, 3) := by decide +kernel
theorem d_M_layWins_69 : decode b_M_layWins 69 = .ok (.iload_n 2, 1) := by decide +kernel
theorem d_M_layWins_70 : decode b_M_layWins 70 = .ok (.iconst 0, 1) := by decide +kernel
theorem d_M_layWins_71 : decode b_M_layWins 71 = .ok (.bastore, 1) := by decide +kernel
theorem d_M_layWins_72 : decode b_M_layWins 72 = .ok (.aload_n 0, 1) := by decide +kernel
theorem d_M_layWins_73 : decode b_M_layWins 73 = .ok (.getfield 73, 3) := by decide +kernel
theorem d_M_layWins_76 : decode b_M_layWins 76 = .ok (.iload_n 2, 1) := by decide +kernel
theorem d_M_layWins_77 : decode b_M_layWins 77 = .ok (.iload_n 2, 1) := by decide +kernel
theorem d_M_layWins_78 : decode b_M_layWins 78 = .ok (.ifCond .ne 7, 3) := by decide +kernel
theorem d_M_layWins_81 : decode b_M_layWins 81 = .ok (.iconst 0, 1) := by decide +kernel
theorem d_M_layWins_82 : decode b_M_layWins 82 = .ok (.goto 4, 3) := by decide +kernel
theorem d_M_layWins_85 : decode b_M_layWins 85 = .ok (.iconst 1, 1) := by decide +kernel
theorem d_M_layWins_86 : decode b_M_layWins 86 = .ok (.iastore, 1) := by decide +kernel
theorem d_M_layWins_87 : decode b_M_layWins 87 = .ok (.aload_n 0, 1) := by decide +kernel
theorem d_M_layWins_88 : decode b_M_layWins 88 = .ok (.getfield 76, 3) := by decide +kernel
theorem d_M_layWins_91 : decode b_M_layWins 91 = .ok (.iload_n 2, 1) := by decide +kernel
theorem d_M_layWins_92 : decode b_M_layWins 92 = .ok (.iload_n 2, 1) := by decide +kernel
theorem d_M_layWins_93 : decode b_M_layWins 93 = .ok (.ifCond .ne 7, 3) := by decide +kernel
theorem d_M_layWins_96 : decode b_M_layWins 96 = .ok (.iconst 0, 1) := by decide +kernel
theorem d_M_layWins_97 : decode b_M_layWins 97 = .ok (.goto 5, 3) := by decide +kernel
theorem d_M_layWins_100 : decode b_M_layWins 100 = .ok (.ldc 127, 2) := by decide +kernel
theorem d_M_layWins_102 : decode b_M_layWins 102 = .ok (.iastore, 1) := by decide +kernel
theorem d_M_layWins_103 : decode b_M_layWins 103 = .ok (.iconst 1, 1) := by decide +kernel
theorem d_M_layWins_104 : decode b_M_layWins 104 = .ok (.istore_n 3, 1) := by decide +kernel
theorem d_M_layWins_105 : decode b_M_layWins 105 = .ok (.iload_n 3, 1) := by decide +kernel
theorem d_M_layWins_106 : decode b_M_layWins 106 = .ok (.aload_n 0, 1) := by decide +kernel
theorem d_M_layWins_107 : decode b_M_layWins 107 = .ok (.getfield 210, 3) := by decide +kernel
theorem d_M_layWins_110 : decode b_M_layWins 110 = .ok (.if_icmp .ge 103, 3) := by decide +kernel
theorem d_M_layWins_113 : decode b_M_layWins 113 = .ok (.iload_n 2, 1) := by decide +kernel
theorem d_M_layWins_114 : decode b_M_layWins 114 = .ok (.iload_n 3, 1) := by decide +kernel
theorem d_M_layWins_115 : decode b_M_layWins 115 = .ok (.invokestatic 229, 3) := by decide +kernel
theorem d_M_layWins_118 : decode b_M_layWins 118 = .ok (.ifCond .eq 89, 3) := by decide +kernel
theorem d_M_layWins_121 : decode b_M_layWins 121 = .ok (.aload_n 0, 1) := by decide +kernel
theorem d_M_layWins_122 : decode b_M_layWins 122 = .ok (.iload_n 2, 1) := by decide +kernel
theorem d_M_layWins_123 : decode b_M_layWins 123 = .ok (.iload_n 3, 1) := by decide +kernel
theorem d_M_layWins_124 : decode b_M_layWins 124 = .ok (.invokevirtual 233, 3) := by decide +kernel
theorem d_M_layWins_127 : decode b_M_layWins 127 = .ok (.istore 4, 2) := by decide +kernel
theorem d_M_layWins_129 : decode b_M_layWins 129 = .ok (.aload_n 0, 1) := by decide +kernel
theorem d_M_layWins_130 : decode b_M_layWins 130 = .ok (.getfield 69, 3) := by decide +kernel
theorem d_M_layWins_133 : decode b_M_layWins 133 = .ok (.iload_n 2, 1) := by decide +kernel
theorem d_M_layWins_134 : decode b_M_layWins 134 = .ok (.aload_n 0, 1) := by decide +kernel
theorem d_M_layWins_135 : decode b_M_layWins 135 = .ok (.getfield 69, 3) := by decide +kernel
theorem d_M_layWins_138 : decode b_M_layWins 138 = .ok (.iload_n 2, 1) := by decide +kernel
theorem d_M_layWins_139 : decode b_M_layWins 139 = .ok (.baload, 1) := by decide +kernel
theorem d_M_layWins_140 : decode b_M_layWins 140 = .ok (.ifCond .ne 13, 3) := by decide +kernel
theorem d_M_layWins_143 : decode b_M_layWins 143 = .ok (.aload_n 0, 1) := by decide +kernel
theorem d_M_layWins_144 : decode b_M_layWins 144 = .ok (.getfield 69, 3) := by decide +kernel
theorem d_M_layWins_147 : decode b_M_layWins 147 = .ok (.iload 4, 2) := by decide +kernel
theorem d_M_layWins_149 : decode b_M_layWins 149 = .ok (.baload, 1) := by decide +kernel
theorem d_M_layWins_150 : decode b_M_layWins 150 = .ok (.ifCond .ne 7, 3) := by decide +kernel
theorem d_M_layWins_153 : decode b_M_layWins 153 = .ok (.iconst 1, 1) := by decide +kernel
theorem d_M_layWins_154 : decode b_M_layWins 154 = .ok (.goto 4, 3) := by decide +kernel
theorem d_M_layWins_157 : decode b_M_layWins 157 = .ok (.iconst 0, 1) := by decide +kernel
theorem d_M_layWins_158 : decode b_M_layWins 158 = .ok (.bastore, 1) := by decide +kernel
theorem d_M_layWins_159 : decode b_M_layWins 159 = .ok (.aload_n 0, 1) := by decide +kernel
theorem d_M_layWins_160 : decode b_M_layWins 160 = .ok (.getfield 73, 3) := by decide +kernel
theorem d_M_layWins_163 : decode b_M_layWins 163 = .ok (.iload_n 2, 1) := by decide +kernel
theorem d_M_layWins_164 : decode b_M_layWins 164 = .ok (.aload_n 0, 1) := by decide +kernel
theorem d_M_layWins_165 : decode b_M_layWins 165 = .ok (.getfield 73, 3) := by decide +kernel
theorem d_M_layWins_168 : decode b_M_layWins 168 = .ok (.iload_n 2, 1) := by decide +kernel
theorem d_M_layWins_169 : decode b_M_layWins 169 = .ok (.iaload, 1) := by decide +kernel
theorem d_M_layWins_170 : decode b_M_layWins 170 = .ok (.iconst 1, 1) := by decide +kernel
theorem d_M_layWins_171 : decode b_M_layWins 171 = .ok (.aload_n 0, 1) := by decide +kernel
theorem d_M_layWins_172 : decode b_M_layWins 172 = .ok (.getfield 73, 3) := by decide +kernel
theorem d_M_layWins_175 : decode b_M_layWins 175 = .ok (.iload 4, 2) := by decide +kernel
theorem d_M_layWins_177 : decode b_M_layWins 177 = .ok (.iaload, 1) := by decide +kernel
theorem d_M_layWins_178 : decode b_M_layWins 178 = .ok (.iadd, 1) := by decide +kernel
theorem d_M_layWins_179 : decode b_M_layWins 179 = .ok (.invokestatic 236, 3) := by decide +kernel
theorem d_M_layWins_182 : decode b_M_layWins 182 = .ok (.iastore, 1) := by decide +kernel
theorem d_M_layWins_183 : decode b_M_layWins 183 = .ok (.aload_n 0, 1) := by decide +kernel
theorem d_M_layWins_184 : decode b_M_layWins 184 = .ok (.getfield 76, 3) := by decide +kernel
theorem d_M_layWins_187 : decode b_M_layWins 187 = .ok (.iload_n 2, 1) := by decide +kernel
theorem d_M_layWins_188 : decode b_M_layWins 188 = .ok (.aload_n 0, 1) := by decide +kernel
theorem d_M_layWins_189 : decode b_M_layWins 189 = .ok (.getfield 76, 3) := by decide +kernel
theorem d_M_layWins_192 : decode b_M_layWins 192 = .ok (.iload_n 2, 1) := by decide +kernel
theorem d_M_layWins_193 : decode b_M_layWins 193 = .ok (.iaload, 1) := by decide +kernel
theorem d_M_layWins_194 : decode b_M_layWins 194 = .ok (.iconst 1, 1) := by decide +kernel
theorem d_M_layWins_195 : decode b_M_layWins 195 = .ok (.aload_n 0, 1) := by decide +kernel
theorem d_M_layWins_196 : decode b_M_layWins 196 = .ok (.getfield 76, 3) := by decide +kernel
theorem d_M_layWins_199 : decode b_M_layWins 199 = .ok (.iload 4, 2) := by decide +kernel
theorem d_M_layWins_201 : decode b_M_layWins 201 = .ok (.iaload, 1) := by decide +kernel
theorem d_M_layWins_202 : decode b_M_layWins 202 = .ok (.iadd, 1) := by decide +kernel
theorem d_M_layWins_203 : decode b_M_layWins 203 = .ok (.invokestatic 128, 3) := by decide +kernel
theorem d_M_layWins_206 : decode b_M_layWins 206 = .ok (.iastore, 1) := by decide +kernel
theorem d_M_layWins_207 : decode b_M_layWins 207 = .ok (.iinc 3 1, 3) := by decide +kernel
theorem d_M_layWins_210 : decode b_M_layWins 210 = .ok (.goto (-105), 3) := by decide +kernel
theorem d_M_layWins_213 : decode b_M_layWins 213 = .ok (.aload_n 0, 1) := by decide +kernel
theorem d_M_layWins_214 : decode b_M_layWins 214 = .ok (.getfield 76, 3) := by decide +kernel
theorem d_M_layWins_217 : decode b_M_layWins 217 = .ok (.iload_n 2, 1) := by decide +kernel
theorem d_M_layWins_218 : decode b_M_layWins 218 = .ok (.iload_n 2, 1) := by decide +kernel
theorem d_M_layWins_219 : decode b_M_layWins 219 = .ok (.ifCond .le 18, 3) := by decide +kernel
theorem d_M_layWins_222 : decode b_M_layWins 222 = .ok (.aload_n 0, 1) := by decide +kernel
theorem d_M_layWins_223 : decode b_M_layWins 223 = .ok (.getfield 76, 3) := by decide +kernel
theorem d_M_layWins_226 : decode b_M_layWins 226 = .ok (.iload_n 2, 1) := by decide +kernel
theorem d_M_layWins_227 : decode b_M_layWins 227 = .ok (.iaload, 1) := by decide +kernel
theorem d_M_layWins_228 : decode b_M_layWins 228 = .ok (.ldc 127, 2) := by decide +kernel
theorem d_M_layWins_230 : decode b_M_layWins 230 = .ok (.if_icmp .ne 7, 3) := by decide +kernel
theorem d_M_layWins_233 : decode b_M_layWins 233 = .ok (.iconst 1, 1) := by decide +kernel
theorem d_M_layWins_234 : decode b_M_layWins 234 = .ok (.goto 9, 3) := by decide +kernel
theorem d_M_layWins_237 : decode b_M_layWins 237 = .ok (.aload_n 0, 1) := by decide +kernel
theorem d_M_layWins_238 : decode b_M_layWins 238 = .ok (.getfield 76, 3) := by decide +kernel
theorem d_M_layWins_241 : decode b_M_layWins 241 = .ok (.iload_n 2, 1) := by decide +kernel
theorem d_M_layWins_242 : decode b_M_layWins 242 = .ok (.iaload, 1) := by decide +kernel
theorem d_M_layWins_243 : decode b_M_layWins 243 = .ok (.iastore, 1) := by decide +kernel
theorem d_M_layWins_244 : decode b_M_layWins 244 = .ok (.iinc 2 1, 3) := by decide +kernel
theorem d_M_layWins_247 : decode b_M_layWins 247 = .ok (.goto (-192), 3) := by decide +kernel
theorem d_M_layWins_250 : decode b_M_layWins 250 = .ok (.return_, 1) := by decide +kernel
theorem d_M_has_0 : decode b_M_has 0 = .ok (.iload_n 0, 1) := by decide +kernel
theorem d_M_has_1 : decode b_M_has 1 = .ok (.iload_n 1, 1) := by decide +kernel
theorem d_M_has_2 : decode b_M_has 2 = .ok (.ishr, 1) := by decide +kernel
theorem d_M_has_3 : decode b_M_has 3 = .ok (.iconst 1, 1) := by decide +kernel
theorem d_M_has_4 : decode b_M_has 4 = .ok (.iand, 1) := by decide +kernel
theorem d_M_has_5 : decode b_M_has 5 = .ok (.iconst 1, 1) := by decide +kernel
theorem d_M_has_6 : decode b_M_has 6 = .ok (.if_icmp .ne 7, 3) := by decide +kernel
theorem d_M_has_9 : decode b_M_has 9 = .ok (.iconst 1, 1) := by decide +kernel
theorem d_M_has_10 : decode b_M_has 10 = .ok (.goto 4, 3) := by decide +kernel
theorem d_M_has_13 : decode b_M_has 13 = .ok (.iconst 0, 1) := by decide +kernel
theorem d_M_has_14 : decode b_M_has 14 = .ok (.ireturn, 1) := by decide +kernel
theorem d_M_behind_0 : decode b_M_behind 0 = .ok (.iconst 0, 1) := by decide +kernel
theorem d_M_behind_1 : decode b_M_behind 1 = .ok (.istore_n 3, 1) := by decide +kernel
theorem d_M_behind_2 : decode b_M_behind 2 = .ok (.iconst 0, 1) := by decide +kernel
theorem d_M_behind_3 : decode b_M_behind 3 = .ok (.istore 4, 2) := by decide +kernel
theorem d_M_behind_5 : decode b_M_behind 5 = .ok (.iload 4, 2) := by decide +kernel
theorem d_M_behind_7 : decode b_M_behind 7 = .ok (.aload_n 0, 1) := by decide +kernel
theorem d_M_behind_8 : decode b_M_behind 8 = .ok (.getfield 210, 3) := by decide +kernel
theorem d_M_behind_11 : decode b_M_behind 11 = .ok (.if_icmp .ge 109, 3) := by decide +kernel
theorem d_M_behind_14 : decode b_M_behind 14 = .ok (.iload_n 1, 1) := by decide +kernel
theorem d_M_behind_15 : decode b_M_behind 15 = .ok (.iload 4, 2) := by decide +kernel
theorem d_M_behind_17 : decode b_M_behind 17 = .ok (.invokestatic 229, 3) := by decide +kernel
theorem d_M_behind_20 : decode b_M_behind 20 = .ok (.istore 5, 2) := by decide +kernel
theorem d_M_behind_22 : decode b_M_behind 22 = .ok (.aload_n 0, 1) := by decide +kernel
theorem d_M_behind_23 : decode b_M_behind 23 = .ok (.getfield 63, 3) := by decide +kernel
theorem d_M_behind_26 : decode b_M_behind 26 = .ok (.iload 4, 2) := by decide +kernel
theorem d_M_behind_28 : decode b_M_behind 28 = .ok (.iaload, 1) := by decide +kernel
theorem d_M_behind_29 : decode b_M_behind 29 = .ok (.aload_n 0, 1) := by decide +kernel
theorem d_M_behind_30 : decode b_M_behind 30 = .ok (.getfield 63, 3) := by decide +kernel
theorem d_M_behind_33 : decode b_M_behind 33 = .ok (.iload_n 2, 1) := by decide +kernel
theorem d_M_behind_34 : decode b_M_behind 34 = .ok (.iaload, 1) := by decide +kernel
theorem d_M_behind_35 : decode b_M_behind 35 = .ok (.isub, 1) := by decide +kernel
theorem d_M_behind_36 : decode b_M_behind 36 = .ok (.istore 6, 2) := by decide +kernel
theorem d_M_behind_38 : decode b_M_behind 38 = .ok (.iload 6, 2) := by decide +kernel
theorem d_M_behind_40 : decode b_M_behind 40 = .ok (.ifCond .lt 58, 3) := by decide +kernel
theorem d_M_behind_43 : decode b_M_behind 43 = .ok (.iload 5, 2) := by decide +kernel
theorem d_M_behind_45 : decode b_M_behind 45 = .ok (.ifCond .eq 53, 3) := by decide +kernel
theorem d_M_behind_48 : decode b_M_behind 48 = .ok (.iload 6, 2) := by decide +kernel
theorem d_M_behind_50 : decode b_M_behind 50 = .ok (.ifCond .le 31, 3) := by decide +kernel
theorem d_M_behind_53 : decode b_M_behind 53 = .ok (.aload_n 0, 1) := by decide +kernel
theorem d_M_behind_54 : decode b_M_behind 54 = .ok (.getfield 66, 3) := by decide +kernel
theorem d_M_behind_57 : decode b_M_behind 57 = .ok (.iload 6, 2) := by decide +kernel
theorem d_M_behind_59 : decode b_M_behind 59 = .ok (.iaload, 1) := by decide +kernel
theorem d_M_behind_60 : decode b_M_behind 60 = .ok (.ifCond .lt 21, 3) := by decide +kernel
theorem d_M_behind_63 : decode b_M_behind 63 = .ok (.iload_n 1, 1) := by decide +kernel
theorem d_M_behind_64 : decode b_M_behind 64 = .ok (.aload_n 0, 1) := by decide +kernel
theorem d_M_behind_65 : decode b_M_behind 65 = .ok (.getfield 66, 3) := by decide +kernel
theorem d_M_behind_68 : decode b_M_behind 68 = .ok (.iload 6, 2) := by decide +kernel
theorem d_M_behind_70 : decode b_M_behind 70 = .ok (.iaload, 1) := by decide +kernel
theorem d_M_behind_71 : decode b_M_behind 71 = .ok (.invokestatic 229, 3) := by decide +kernel
theorem d_M_behind_74 : decode b_M_behind 74 = .ok (.ifCond .eq 7, 3) := by decide +kernel
theorem d_M_behind_77 : decode b_M_behind 77 = .ok (.iconst 1, 1) := by decide +kernel
theorem d_M_behind_78 : decode b_M_behind 78 = .ok (.goto 4, 3) := by decide +kernel
theorem d_M_behind_81 : decode b_M_behind 81 = .ok (.iconst 0, 1) := by decide +kernel
theorem d_M_behind_82 : decode b_M_behind 82 = .ok (.istore 5, 2) := by decide +kernel
theorem d_M_behind_84 : decode b_M_behind 84 = .ok (.iload 6, 2) := by decide +kernel
theorem d_M_behind_86 : decode b_M_behind 86 = .ok (.aload_n 0, 1) := by decide +kernel
theorem d_M_behind_87 : decode b_M_behind 87 = .ok (.getfield 63, 3) := by decide +kernel
theorem d_M_behind_90 : decode b_M_behind 90 = .ok (.iload_n 2, 1) := by decide +kernel
theorem d_M_behind_91 : decode b_M_behind 91 = .ok (.iaload, 1) := by decide +kernel
theorem d_M_behind_92 : decode b_M_behind 92 = .ok (.isub, 1) := by decide +kernel
theorem d_M_behind_93 : decode b_M_behind 93 = .ok (.istore 6, 2) := by decide +kernel
theorem d_M_behind_95 : decode b_M_behind 95 = .ok (.goto (-57), 3) := by decide +kernel
theorem d_M_behind_98 : decode b_M_behind 98 = .ok (.iload_n 3, 1) := by decide +kernel
theorem d_M_behind_99 : decode b_M_behind 99 = .ok (.iload 5, 2) := by decide +kernel
theorem d_M_behind_101 : decode b_M_behind 101 = .ok (.ifCond .eq 10, 3) := by decide +kernel
theorem d_M_behind_104 : decode b_M_behind 104 = .ok (.iconst 1, 1) := by decide +kernel
theorem d_M_behind_105 : decode b_M_behind 105 = .ok (.iload 4, 2) := by decide +kernel
theorem d_M_behind_107 : decode b_M_behind 107 = .ok (.ishl, 1) := by decide +kernel
theorem d_M_behind_108 : decode b_M_behind 108 = .ok (.goto 4, 3) := by decide +kernel
theorem d_M_behind_111 : decode b_M_behind 111 = .ok (.iconst 0, 1) := by decide +kernel
theorem d_M_behind_112 : decode b_M_behind 112 = .ok (.ior, 1) := by decide +kernel
theorem d_M_behind_113 : decode b_M_behind 113 = .ok (.istore_n 3, 1) := by decide +kernel
theorem d_M_behind_114 : decode b_M_behind 114 = .ok (.iinc 4 1, 3) := by decide +kernel
theorem d_M_behind_117 : decode b_M_behind 117 = .ok (.goto (-112), 3) := by decide +kernel
theorem d_M_behind_120 : decode b_M_behind 120 = .ok (.iload_n 3, 1) := by decide +kernel
theorem d_M_behind_121 : decode b_M_behind 121 = .ok (.ireturn, 1) := by decide +kernel
theorem d_M_greater_0 : decode b_M_greater 0 = .ok (.iload_n 0, 1) := by decide +kernel
theorem d_M_greater_1 : decode b_M_greater 1 = .ok (.iload_n 1, 1) := by decide +kernel
theorem d_M_greater_2 : decode b_M_greater 2 = .ok (.if_icmp .le 7, 3) := by decide +kernel
theorem d_M_greater_5 : decode b_M_greater 5 = .ok (.iload_n 0, 1) := by decide +kernel
theorem d_M_greater_6 : decode b_M_greater 6 = .ok (.goto 4, 3) := by decide +kernel
theorem d_M_greater_9 : decode b_M_greater 9 = .ok (.iload_n 1, 1) := by decide +kernel
theorem d_M_greater_10 : decode b_M_greater 10 = .ok (.ireturn, 1) := by decide +kernel
theorem d_M_winMany_0 : decode b_M_winMany 0 = .ok (.iconst 0, 1) := by decide +kernel
theorem d_M_winMany_1 : decode b_M_winMany 1 = .ok (.istore_n 1, 1) := by decide +kernel
theorem d_M_winMany_2 : decode b_M_winMany 2 = .ok (.iconst 0, 1) := by decide +kernel
theorem d_M_winMany_3 : decode b_M_winMany 3 = .ok (.istore_n 2, 1) := by decide +kernel
theorem d_M_winMany_4 : decode b_M_winMany 4 = .ok (.iload_n 2, 1) := by decide +kernel
theorem d_M_winMany_5 : decode b_M_winMany 5 = .ok (.aload_n 0, 1) := by decide +kernel
theorem d_M_winMany_6 : decode b_M_winMany 6 = .ok (.getfield 210, 3) := by decide +kernel
theorem d_M_winMany_9 : decode b_M_winMany 9 = .ok (.if_icmp .ge 25, 3) := by decide +kernel
theorem d_M_winMany_12 : decode b_M_winMany 12 = .ok (.iload_n 1, 1) := by decide +kernel
theorem d_M_winMany_13 : decode b_M_winMany 13 = .ok (.aload_n 0, 1) := by decide +kernel
theorem d_M_winMany_14 : decode b_M_winMany 14 = .ok (.iload_n 2, 1) := by decide +kernel
theorem d_M_winMany_15 : decode b_M_winMany 15 = .ok (.invokevirtual 242, 3) := by decide +kernel
theorem d_M_winMany_18 : decode b_M_winMany 18 = .ok (.ifCond .eq 7, 3) := by decide +kernel
theorem d_M_winMany_21 : decode b_M_winMany 21 = .ok (.iconst 1, 1) := by decide +kernel
theorem d_M_winMany_22 : decode b_M_winMany 22 = .ok (.goto 4, 3) := by decide +kernel
theorem d_M_winMany_25 : decode b_M_winMany 25 = .ok (.iconst 0, 1) := by decide +kernel
theorem d_M_winMany_26 : decode b_M_winMany 26 = .ok (.iadd, 1) := by decide +kernel
theorem d_M_winMany_27 : decode b_M_winMany 27 = .ok (.istore_n 1, 1) := by decide +kernel
theorem d_M_winMany_28 : decode b_M_winMany 28 = .ok (.iinc 2 1, 3) := by decide +kernel
theorem d_M_winMany_31 : decode b_M_winMany 31 = .ok (.goto (-27), 3) := by decide +kernel
theorem d_M_winMany_34 : decode b_M_winMany 34 = .ok (.iload_n 1, 1) := by decide +kernel
theorem d_M_winMany_35 : decode b_M_winMany 35 = .ok (.ireturn, 1) := by decide +kernel
theorem d_M_isWinning_0 : decode b_M_isWinning 0 = .ok (.iload_n 1, 1) := by decide +kernel
theorem d_M_isWinning_1 : decode b_M_isWinning 1 = .ok (.ifCond .le 24, 3) := by decide +kernel
theorem d_M_isWinning_4 : decode b_M_isWinning 4 = .ok (.aload_n 0, 1) := by decide +kernel
theorem d_M_isWinning_5 : decode b_M_isWinning 5 = .ok (.getfield 69, 3) := by decide +kernel
theorem d_M_isWinning_8 : decode b_M_isWinning 8 = .ok (.aload_n 0, 1) := by decide +kernel
theorem d_M_isWinning_9 : decode b_M_isWinning 9 = .ok (.aload_n 0, 1) := by decide +kernel
theorem d_M_isWinning_10 : decode b_M_isWinning 10 = .ok (.invokevirtual 239, 3) := by decide +kernel
theorem d_M_isWinning_13 : decode b_M_isWinning 13 = .ok (.iload_n 1, 1) := by decide +kernel
theorem d_M_isWinning_14 : decode b_M_isWinning 14 = .ok (.invokevirtual 233, 3) := by decide +kernel
theorem d_M_isWinning_17 : decode b_M_isWinning 17 = .ok (.baload, 1) := by decide +kernel
theorem d_M_isWinning_18 : decode b_M_isWinning 18 = .ok (.ifCond .ne 7, 3) := by decide +kernel
theorem d_M_isWinning_21 : decode b_M_isWinning 21 = .ok (.iconst 1, 1) := by decide +kernel
theorem d_M_isWinning_22 : decode b_M_isWinning 22 = .ok (.goto 4, 3) := by decide +kernel
theorem d_M_isWinning_25 : decode b_M_isWinning 25 = .ok (.iconst 0, 1) := by decide +kernel
theorem d_M_isWinning_26 : decode b_M_isWinning 26 = .ok (.ireturn, 1) := by decide +kernel
theorem d_M_allGaps_0 : decode b_M_allGaps 0 = .ok (.iconst 1, 1) := by decide +kernel
theorem d_M_allGaps_1 : decode b_M_allGaps 1 = .ok (.aload_n 0, 1) := by decide +kernel
theorem d_M_allGaps_2 : decode b_M_allGaps 2 = .ok (.getfield 210, 3) := by decide +kernel
theorem d_M_allGaps_5 : decode b_M_allGaps 5 = .ok (.ishl, 1) := by decide +kernel
theorem d_M_allGaps_6 : decode b_M_allGaps 6 = .ok (.iconst 1, 1) := by decide +kernel
theorem d_M_allGaps_7 : decode b_M_allGaps 7 = .ok (.isub, 1) := by decide +kernel
theorem d_M_allGaps_8 : decode b_M_allGaps 8 = .ok (.ireturn, 1) := by decide +kernel
theorem d_M_best_0 : decode b_M_best 0 = .ok (.iload_n 1, 1) := by decide +kernel
theorem d_M_best_1 : decode b_M_best 1 = .ok (.invokestatic 110, 3) := by decide +kernel
theorem d_M_best_4 : decode b_M_best 4 = .ok (.ifCond .ne 5, 3) := by decide +kernel
theorem d_M_best_7 : decode b_M_best 7 = .ok (.iconst (-1), 1) := by decide +kernel
theorem d_M_best_8 : decode b_M_best 8 = .ok (.ireturn, 1) := by decide +kernel
theorem d_M_best_9 : decode b_M_best 9 = .ok (.aload_n 0, 1) := by decide +kernel
theorem d_M_best_10 : decode b_M_best 10 = .ok (.invokevirtual 251, 3) := by decide +kernel
theorem d_M_best_13 : decode b_M_best 13 = .ok (.istore_n 2, 1) := by decide +kernel
theorem d_M_best_14 : decode b_M_best 14 = .ok (.iload_n 2, 1) := by decide +kernel
theorem d_M_best_15 : decode b_M_best 15 = .ok (.ifCond .ge 5, 3) := by decide +kernel
theorem d_M_best_18 : decode b_M_best 18 = .ok (.iload_n 2, 1) := by decide +kernel
theorem d_M_best_19 : decode b_M_best 19 = .ok (.ireturn, 1) := by decide +kernel
theorem d_M_best_20 : decode b_M_best 20 = .ok (.iconst 0, 1) := by decide +kernel
theorem d_M_best_21 : decode b_M_best 21 = .ok (.istore_n 3, 1) := by decide +kernel
theorem d_M_best_22 : decode b_M_best 22 = .ok (.iconst 0, 1) := by decide +kernel
theorem d_M_best_23 : decode b_M_best 23 = .ok (.istore 4, 2) := by decide +kernel
theorem d_M_best_25 : decode b_M_best 25 = .ok (.iload 4, 2) := by decide +kernel
theorem d_M_best_27 : decode b_M_best 27 = .ok (.bipush 60, 2) := by decide +kernel
theorem d_M_best_29 : decode b_M_best 29 = .ok (.if_icmp .ge 22, 3) := by decide +kernel
theorem d_M_best_32 : decode b_M_best 32 = .ok (.aload_n 0, 1) := by decide +kernel
theorem d_M_best_33 : decode b_M_best 33 = .ok (.getfield 16, 3) := by decide +kernel
theorem d_M_best_36 : decode b_M_best 36 = .ok (.bipush 60, 2) := by decide +kernel
theorem d_M_best_38 : decode b_M_best 38 = .ok (.iload_n 1, 1) := by decide +kernel
theorem d_M_best_39 : decode b_M_best 39 = .ok (.imul, 1) := by decide +kernel
theorem d_M_best_40 : decode b_M_best 40 = .ok (.iload 4, 2) := by decide +kernel
theorem d_M_best_42 : decode b_M_best 42 = .ok (.iadd, 1) := by decide +kernel
theorem d_M_best_43 : decode b_M_best 43 = .ok (.iconst 0, 1) := by decide +kernel
theorem d_M_best_44 : decode b_M_best 44 = .ok (.iastore, 1) := by decide +kernel
theorem d_M_best_45 : decode b_M_best 45 = .ok (.iinc 4 1, 3) := by decide +kernel
theorem d_M_best_48 : decode b_M_best 48 = .ok (.goto (-23), 3) := by decide +kernel
theorem d_M_best_51 : decode b_M_best 51 = .ok (.iconst 0, 1) := by decide +kernel
theorem d_M_best_52 : decode b_M_best 52 = .ok (.istore 4, 2) := by decide +kernel
theorem d_M_best_54 : decode b_M_best 54 = .ok (.iload 4, 2) := by decide +kernel
theorem d_M_best_56 : decode b_M_best 56 = .ok (.aload_n 0, 1) := by decide +kernel
theorem d_M_best_57 : decode b_M_best 57 = .ok (.getfield 210, 3) := by decide +kernel
theorem d_M_best_60 : decode b_M_best 60 = .ok (.if_icmp .ge 39, 3) := by decide +kernel
theorem d_M_best_63 : decode b_M_best 63 = .ok (.aload_n 0, 1) := by decide +kernel
theorem d_M_best_64 : decode b_M_best 64 = .ok (.iload 4, 2) := by decide +kernel
theorem d_M_best_66 : decode b_M_best 66 = .ok (.invokevirtual 242, 3) := by decide +kernel
theorem d_M_best_69 : decode b_M_best 69 = .ok (.ifCond .eq 24, 3) := by decide +kernel
theorem d_M_best_72 : decode b_M_best 72 = .ok (.aload_n 0, 1) := by decide +kernel
theorem d_M_best_73 : decode b_M_best 73 = .ok (.getfield 16, 3) := by decide +kernel
theorem d_M_best_76 : decode b_M_best 76 = .ok (.bipush 60, 2) := by decide +kernel
theorem d_M_best_78 : decode b_M_best 78 = .ok (.iload_n 1, 1) := by decide +kernel
theorem d_M_best_79 : decode b_M_best 79 = .ok (.imul, 1) := by decide +kernel
theorem d_M_best_80 : decode b_M_best 80 = .ok (.iload_n 3, 1) := by decide +kernel
theorem d_M_best_81 : decode b_M_best 81 = .ok (.iadd, 1) := by decide +kernel
theorem d_M_best_82 : decode b_M_best 82 = .ok (.aload_n 0, 1) := by decide +kernel
theorem d_M_best_83 : decode b_M_best 83 = .ok (.getfield 63, 3) := by decide +kernel
theorem d_M_best_86 : decode b_M_best 86 = .ok (.iload 4, 2) := by decide +kernel
theorem d_M_best_88 : decode b_M_best 88 = .ok (.iaload, 1) := by decide +kernel
theorem d_M_best_89 : decode b_M_best 89 = .ok (.iastore, 1) := by decide +kernel
theorem d_M_best_90 : decode b_M_best 90 = .ok (.iinc 3 1, 3) := by decide +kernel
theorem d_M_best_93 : decode b_M_best 93 = .ok (.iinc 4 1, 3) := by decide +kernel
theorem d_M_best_96 : decode b_M_best 96 = .ok (.goto (-42), 3) := by decide +kernel
theorem d_M_best_99 : decode b_M_best 99 = .ok (.aload_n 0, 1) := by decide +kernel
theorem d_M_best_100 : decode b_M_best 100 = .ok (.getfield 13, 3) := by decide +kernel
theorem d_M_best_103 : decode b_M_best 103 = .ok (.iload_n 1, 1) := by decide +kernel
theorem d_M_best_104 : decode b_M_best 104 = .ok (.iload_n 3, 1) := by decide +kernel
theorem d_M_best_105 : decode b_M_best 105 = .ok (.iastore, 1) := by decide +kernel
theorem d_M_best_106 : decode b_M_best 106 = .ok (.iload_n 3, 1) := by decide +kernel
theorem d_M_best_107 : decode b_M_best 107 = .ok (.ireturn, 1) := by decide +kernel
theorem d_M_lasts_0 : decode b_M_lasts 0 = .ok (.aload_n 0, 1) := by decide +kernel
theorem d_M_lasts_1 : decode b_M_lasts 1 = .ok (.invokevirtual 251, 3) := by decide +kernel
theorem d_M_lasts_4 : decode b_M_lasts 4 = .ok (.istore_n 1, 1) := by decide +kernel
theorem d_M_lasts_5 : decode b_M_lasts 5 = .ok (.iload_n 1, 1) := by decide +kernel
theorem d_M_lasts_6 : decode b_M_lasts 6 = .ok (.ifCond .ge 7, 3) := by decide +kernel
theorem d_M_lasts_9 : decode b_M_lasts 9 = .ok (.iload_n 1, 1) := by decide +kernel
theorem d_M_lasts_10 : decode b_M_lasts 10 = .ok (.goto 25, 3) := by decide +kernel
theorem d_M_lasts_13 : decode b_M_lasts 13 = .ok (.aload_n 0, 1) := by decide +kernel
theorem d_M_lasts_14 : decode b_M_lasts 14 = .ok (.aload_n 0, 1) := by decide +kernel
theorem d_M_lasts_15 : decode b_M_lasts 15 = .ok (.getfield 76, 3) := by decide +kernel
theorem d_M_lasts_18 : decode b_M_lasts 18 = .ok (.aload_n 0, 1) := by decide +kernel
theorem d_M_lasts_19 : decode b_M_lasts 19 = .ok (.invokevirtual 239, 3) := by decide +kernel
theorem d_M_lasts_22 : decode b_M_lasts 22 = .ok (.iaload, 1) := by decide +kernel
theorem d_M_lasts_23 : decode b_M_lasts 23 = .ok (.aload_n 0, 1) := by decide +kernel
theorem d_M_lasts_24 : decode b_M_lasts 24 = .ok (.getfield 73, 3) := by decide +kernel
theorem d_M_lasts_27 : decode b_M_lasts 27 = .ok (.aload_n 0, 1) := by decide +kernel
theorem d_M_lasts_28 : decode b_M_lasts 28 = .ok (.invokevirtual 239, 3) := by decide +kernel
theorem d_M_lasts_31 : decode b_M_lasts 31 = .ok (.iaload, 1) := by decide +kernel
theorem d_M_lasts_32 : decode b_M_lasts 32 = .ok (.invokevirtual 121, 3) := by decide +kernel
theorem d_M_lasts_35 : decode b_M_lasts 35 = .ok (.ireturn, 1) := by decide +kernel
theorem d_M_share_0 : decode b_M_share 0 = .ok (.aload_n 0, 1) := by decide +kernel
theorem d_M_share_1 : decode b_M_share 1 = .ok (.invokevirtual 251, 3) := by decide +kernel
theorem d_M_share_4 : decode b_M_share 4 = .ok (.istore_n 1, 1) := by decide +kernel
theorem d_M_share_5 : decode b_M_share 5 = .ok (.iload_n 1, 1) := by decide +kernel
theorem d_M_share_6 : decode b_M_share 6 = .ok (.ifCond .ge 5, 3) := by decide +kernel
theorem d_M_share_9 : decode b_M_share 9 = .ok (.iload_n 1, 1) := by decide +kernel
theorem d_M_share_10 : decode b_M_share 10 = .ok (.ireturn, 1) := by decide +kernel
theorem d_M_share_11 : decode b_M_share 11 = .ok (.aload_n 0, 1) := by decide +kernel
theorem d_M_share_12 : decode b_M_share 12 = .ok (.invokevirtual 254, 3) := by decide +kernel
theorem d_M_share_15 : decode b_M_share 15 = .ok (.istore_n 2, 1) := by decide +kernel
theorem d_M_share_16 : decode b_M_share 16 = .ok (.aload_n 0, 1) := by decide +kernel
theorem d_M_share_17 : decode b_M_share 17 = .ok (.iload_n 2, 1) := by decide +kernel
theorem d_M_share_18 : decode b_M_share 18 = .ok (.aload_n 0, 1) := by decide +kernel
theorem d_M_share_19 : decode b_M_share 19 = .ok (.getfield 210, 3) := by decide +kernel
theorem d_M_share_22 : decode b_M_share 22 = .ok (.iload_n 2, 1) := by decide +kernel
theorem d_M_share_23 : decode b_M_share 23 = .ok (.invokevirtual 257, 3) := by decide +kernel
theorem d_M_share_26 : decode b_M_share 26 = .ok (.ireturn, 1) := by decide +kernel
theorem d_M_fraction_0 : decode b_M_fraction 0 = .ok (.iload_n 1, 1) := by decide +kernel
theorem d_M_fraction_1 : decode b_M_fraction 1 = .ok (.iload_n 2, 1) := by decide +kernel
theorem d_M_fraction_2 : decode b_M_fraction 2 = .ok (.invokestatic 106, 3) := by decide +kernel
theorem d_M_fraction_5 : decode b_M_fraction 5 = .ok (.istore 4, 2) := by decide +kernel
theorem d_M_fraction_7 : decode b_M_fraction 7 = .ok (.aload_n 0, 1) := by decide +kernel
theorem d_M_fraction_8 : decode b_M_fraction 8 = .ok (.iload_n 1, 1) := by decide +kernel
theorem d_M_fraction_9 : decode b_M_fraction 9 = .ok (.iload 4, 2) := by decide +kernel
theorem d_M_fraction_11 : decode b_M_fraction 11 = .ok (.idiv, 1) := by decide +kernel
theorem d_M_fraction_12 : decode b_M_fraction 12 = .ok (.i2l, 1) := by decide +kernel
theorem d_M_fraction_13 : decode b_M_fraction 13 = .ok (.putfield 103, 3) := by decide +kernel
theorem d_M_fraction_16 : decode b_M_fraction 16 = .ok (.aload_n 0, 1) := by decide +kernel
theorem d_M_fraction_17 : decode b_M_fraction 17 = .ok (.iload_n 2, 1) := by decide +kernel
theorem d_M_fraction_18 : decode b_M_fraction 18 = .ok (.iload 4, 2) := by decide +kernel
theorem d_M_fraction_20 : decode b_M_fraction 20 = .ok (.idiv, 1) := by decide +kernel
theorem d_M_fraction_21 : decode b_M_fraction 21 = .ok (.i2l, 1) := by decide +kernel
theorem d_M_fraction_22 : decode b_M_fraction 22 = .ok (.putfield 88, 3) := by decide +kernel
theorem d_M_fraction_25 : decode b_M_fraction 25 = .ok (.iload_n 3, 1) := by decide +kernel
theorem d_M_fraction_26 : decode b_M_fraction 26 = .ok (.ireturn, 1) := by decide +kernel
theorem d_M_says_0 : decode b_M_says 0 = .ok (.aload_n 0, 1) := by decide +kernel
theorem d_M_says_1 : decode b_M_says 1 = .ok (.iload_n 1, 1) := by decide +kernel
theorem d_M_says_2 : decode b_M_says 2 = .ok (.invokevirtual 181, 3) := by decide +kernel
theorem d_M_says_5 : decode b_M_says 5 = .ok (.ifCond .ne 7, 3) := by decide +kernel
theorem d_M_says_8 : decode b_M_says 8 = .ok (.iconst (-1), 1) := by decide +kernel
theorem d_M_says_9 : decode b_M_says 9 = .ok (.goto 21, 3) := by decide +kernel
theorem d_M_says_12 : decode b_M_says 12 = .ok (.aload_n 0, 1) := by decide +kernel
theorem d_M_says_13 : decode b_M_says 13 = .ok (.invokevirtual 196, 3) := by decide +kernel
theorem d_M_says_16 : decode b_M_says 16 = .ok (.ifCond .eq 8, 3) := by decide +kernel
theorem d_M_says_19 : decode b_M_says 19 = .ok (.bipush (-4), 2) := by decide +kernel
theorem d_M_says_21 : decode b_M_says 21 = .ok (.goto 9, 3) := by decide +kernel
theorem d_M_says_24 : decode b_M_says 24 = .ok (.aload_n 0, 1) := by decide +kernel
theorem d_M_says_25 : decode b_M_says 25 = .ok (.iload_n 1, 1) := by decide +kernel
theorem d_M_says_26 : decode b_M_says 26 = .ok (.iconst 0, 1) := by decide +kernel
theorem d_M_says_27 : decode b_M_says 27 = .ok (.invokevirtual 290, 3) := by decide +kernel
theorem d_M_says_30 : decode b_M_says 30 = .ok (.ireturn, 1) := by decide +kernel
theorem d_M_saysOf_0 : decode b_M_saysOf 0 = .ok (.aload_n 0, 1) := by decide +kernel
theorem d_M_saysOf_1 : decode b_M_saysOf 1 = .ok (.getfield 32, 3) := by decide +kernel
theorem d_M_saysOf_4 : decode b_M_saysOf 4 = .ok (.iload_n 1, 1) := by decide +kernel
theorem d_M_saysOf_5 : decode b_M_saysOf 5 = .ok (.iaload, 1) := by decide +kernel
theorem d_M_saysOf_6 : decode b_M_saysOf 6 = .ok (.tableswitch 72 1 5 #[34, 46, 51, 40, 56], 34) := by decide +kernel
theorem d_M_saysOf_40 : decode b_M_saysOf 40 = .ok (.aload_n 0, 1) := by decide +kernel
theorem d_M_saysOf_41 : decode b_M_saysOf 41 = .ok (.iconst 0, 1) := by decide +kernel
theorem d_M_saysOf_42 : decode b_M_saysOf 42 = .ok (.invokevirtual 277, 3) := by decide +kernel
theorem d_M_saysOf_45 : decode b_M_saysOf 45 = .ok (.ireturn, 1) := by decide +kernel
theorem d_M_saysOf_46 : decode b_M_saysOf 46 = .ok (.aload_n 0, 1) := by decide +kernel
theorem d_M_saysOf_47 : decode b_M_saysOf 47 = .ok (.iconst 1, 1) := by decide +kernel
theorem d_M_saysOf_48 : decode b_M_saysOf 48 = .ok (.invokevirtual 277, 3) := by decide +kernel
theorem d_M_saysOf_51 : decode b_M_saysOf 51 = .ok (.ireturn, 1) := by decide +kernel
theorem d_M_saysOf_52 : decode b_M_saysOf 52 = .ok (.aload_n 0, 1) := by decide +kernel
theorem d_M_saysOf_53 : decode b_M_saysOf 53 = .ok (.invokevirtual 281, 3) := by decide +kernel
theorem d_M_saysOf_56 : decode b_M_saysOf 56 = .ok (.ireturn, 1) := by decide +kernel
theorem d_M_saysOf_57 : decode b_M_saysOf 57 = .ok (.aload_n 0, 1) := by decide +kernel
theorem d_M_saysOf_58 : decode b_M_saysOf 58 = .ok (.invokevirtual 284, 3) := by decide +kernel
theorem d_M_saysOf_61 : decode b_M_saysOf 61 = .ok (.ireturn, 1) := by decide +kernel
theorem d_M_saysOf_62 : decode b_M_saysOf 62 = .ok (.iload_n 2, 1) := by decide +kernel
theorem d_M_saysOf_63 : decode b_M_saysOf 63 = .ok (.ifCond .eq 10, 3) := by decide +kernel
theorem d_M_saysOf_66 : decode b_M_saysOf 66 = .ok (.aload_n 0, 1) := by decide +kernel
theorem d_M_saysOf_67 : decode b_M_saysOf 67 = .ok (.invokevirtual 287, 3) := by decide +kernel
theorem d_M_saysOf_70 : decode b_M_saysOf 70 = .ok (.goto 7, 3) := by decide +kernel
theorem d_M_saysOf_73 : decode b_M_saysOf 73 = .ok (.aload_n 0, 1) := by decide +kernel
theorem d_M_saysOf_74 : decode b_M_saysOf 74 = .ok (.invokevirtual 281, 3) := by decide +kernel
theorem d_M_saysOf_77 : decode b_M_saysOf 77 = .ok (.ireturn, 1) := by decide +kernel
theorem d_M_saysOf_78 : decode b_M_saysOf 78 = .ok (.aload_n 0, 1) := by decide +kernel
theorem d_M_saysOf_79 : decode b_M_saysOf 79 = .ok (.invokevirtual 264, 3) := by decide +kernel
theorem d_M_saysOf_82 : decode b_M_saysOf 82 = .ok (.ireturn, 1) := by decide +kernel
theorem d_M_byLeft_0 : decode b_M_byLeft 0 = .ok (.iconst 1, 1) := by decide +kernel
theorem d_M_byLeft_1 : decode b_M_byLeft 1 = .ok (.istore_n 2, 1) := by decide +kernel
theorem d_M_byLeft_2 : decode b_M_byLeft 2 = .ok (.iconst 0, 1) := by decide +kernel
theorem d_M_byLeft_3 : decode b_M_byLeft 3 = .ok (.istore_n 3, 1) := by decide +kernel
theorem d_M_byLeft_4 : decode b_M_byLeft 4 = .ok (.aload_n 0, 1) := by decide +kernel
theorem d_M_byLeft_5 : decode b_M_byLeft 5 = .ok (.invokevirtual 226, 3) := by decide +kernel
theorem d_M_byLeft_8 : decode b_M_byLeft 8 = .ok (.iconst 2, 1) := by decide +kernel
theorem d_M_byLeft_9 : decode b_M_byLeft 9 = .ok (.istore 4, 2) := by decide +kernel
theorem d_M_byLeft_11 : decode b_M_byLeft 11 = .ok (.iload 4, 2) := by decide +kernel
theorem d_M_byLeft_13 : decode b_M_byLeft 13 = .ok (.bipush 60, 2) := by decide +kernel
theorem d_M_byLeft_15 : decode b_M_byLeft 15 = .ok (.if_icmp .gt 79, 3) := by decide +kernel
theorem d_M_byLeft_18 : decode b_M_byLeft 18 = .ok (.aload_n 0, 1) := by decide +kernel
theorem d_M_byLeft_19 : decode b_M_byLeft 19 = .ok (.iload 4, 2) := by decide +kernel
theorem d_M_byLeft_21 : decode b_M_byLeft 21 = .ok (.invokevirtual 199, 3) := by decide +kernel
theorem d_M_byLeft_24 : decode b_M_byLeft 24 = .ok (.ifCond .eq 64, 3) := by decide +kernel
theorem d_M_byLeft_27 : decode b_M_byLeft 27 = .ok (.aload_n 0, 1) := by decide +kernel
theorem d_M_byLeft_28 : decode b_M_byLeft 28 = .ok (.getfield 60, 3) := by decide +kernel
theorem d_M_byLeft_31 : decode b_M_byLeft 31 = .ok (.aload_n 0, 1) := by decide +kernel
theorem d_M_byLeft_32 : decode b_M_byLeft 32 = .ok (.getfield 178, 3) := by decide +kernel
theorem d_M_byLeft_35 : decode b_M_byLeft 35 = .ok (.iload 4, 2) := by decide +kernel
theorem d_M_byLeft_37 : decode b_M_byLeft 37 = .ok (.iastore, 1) := by decide +kernel
theorem d_M_byLeft_38 : decode b_M_byLeft 38 = .ok (.aload_n 0, 1) := by decide +kernel
theorem d_M_byLeft_39 : decode b_M_byLeft 39 = .ok (.aload_n 0, 1) := by decide +kernel
theorem d_M_byLeft_40 : decode b_M_byLeft 40 = .ok (.getfield 60, 3) := by decide +kernel
theorem d_M_byLeft_43 : decode b_M_byLeft 43 = .ok (.aload_n 0, 1) := by decide +kernel
theorem d_M_byLeft_44 : decode b_M_byLeft 44 = .ok (.getfield 178, 3) := by decide +kernel
theorem d_M_byLeft_47 : decode b_M_byLeft 47 = .ok (.iconst 1, 1) := by decide +kernel
theorem d_M_byLeft_48 : decode b_M_byLeft 48 = .ok (.iadd, 1) := by decide +kernel
theorem d_M_byLeft_49 : decode b_M_byLeft 49 = .ok (.aload_n 0, 1) := by decide +kernel
theorem d_M_byLeft_50 : decode b_M_byLeft 50 = .ok (.getfield 172, 3) := by decide +kernel
theorem d_M_byLeft_53 : decode b_M_byLeft 53 = .ok (.invokevirtual 184, 3) := by decide +kernel
theorem d_M_byLeft_56 : decode b_M_byLeft 56 = .ok (.istore 5, 2) := by decide +kernel
theorem d_M_byLeft_58 : decode b_M_byLeft 58 = .ok (.iload_n 2, 1) := by decide +kernel
theorem d_M_byLeft_59 : decode b_M_byLeft 59 = .ok (.iconst 1, 1) := by decide +kernel
theorem d_M_byLeft_60 : decode b_M_byLeft 60 = .ok (.if_icmp .eq 22, 3) := by decide +kernel
theorem d_M_byLeft_63 : decode b_M_byLeft 63 = .ok (.iload_n 1, 1) := by decide +kernel
theorem d_M_byLeft_64 : decode b_M_byLeft 64 = .ok (.ifCond .eq 12, 3) := by decide +kernel
theorem d_M_byLeft_67 : decode b_M_byLeft 67 = .ok (.iload 5, 2) := by decide +kernel
theorem d_M_byLeft_69 : decode b_M_byLeft 69 = .ok (.iload_n 3, 1) := by decide +kernel
theorem d_M_byLeft_70 : decode b_M_byLeft 70 = .ok (.if_icmp .le 18, 3) := by decide +kernel
theorem d_M_byLeft_73 : decode b_M_byLeft 73 = .ok (.goto 9, 3) := by decide +kernel
theorem d_M_byLeft_76 : decode b_M_byLeft 76 = .ok (.iload 5, 2) := by decide +kernel
theorem d_M_byLeft_78 : decode b_M_byLeft 78 = .ok (.iload_n 3, 1) := by decide +kernel
theorem d_M_byLeft_79 : decode b_M_byLeft 79 = .ok (.if_icmp .ge 9, 3) := by decide +kernel
theorem d_M_byLeft_82 : decode b_M_byLeft 82 = .ok (.iload 4, 2) := by decide +kernel
theorem d_M_byLeft_84 : decode b_M_byLeft 84 = .ok (.istore_n 2, 1) := by decide +kernel
theorem d_M_byLeft_85 : decode b_M_byLeft 85 = .ok (.iload 5, 2) := by decide +kernel
theorem d_M_byLeft_87 : decode b_M_byLeft 87 = .ok (.istore_n 3, 1) := by decide +kernel
theorem d_M_byLeft_88 : decode b_M_byLeft 88 = .ok (.iinc 4 1, 3) := by decide +kernel
theorem d_M_byLeft_91 : decode b_M_byLeft 91 = .ok (.goto (-80), 3) := by decide +kernel
theorem d_M_byLeft_94 : decode b_M_byLeft 94 = .ok (.iload_n 2, 1) := by decide +kernel
theorem d_M_byLeft_95 : decode b_M_byLeft 95 = .ok (.ireturn, 1) := by decide +kernel
theorem d_M_pairOf_0 : decode b_M_pairOf 0 = .ok (.aload_n 0, 1) := by decide +kernel
theorem d_M_pairOf_1 : decode b_M_pairOf 1 = .ok (.getfield 178, 3) := by decide +kernel
theorem d_M_pairOf_4 : decode b_M_pairOf 4 = .ok (.ifCond .ne 10, 3) := by decide +kernel
theorem d_M_pairOf_7 : decode b_M_pairOf 7 = .ok (.aload_n 0, 1) := by decide +kernel
theorem d_M_pairOf_8 : decode b_M_pairOf 8 = .ok (.invokevirtual 261, 3) := by decide +kernel
theorem d_M_pairOf_11 : decode b_M_pairOf 11 = .ok (.goto 19, 3) := by decide +kernel
theorem d_M_pairOf_14 : decode b_M_pairOf 14 = .ok (.aload_n 0, 1) := by decide +kernel
theorem d_M_pairOf_15 : decode b_M_pairOf 15 = .ok (.invokevirtual 261, 3) := by decide +kernel
theorem d_M_pairOf_18 : decode b_M_pairOf 18 = .ok (.aload_n 0, 1) := by decide +kernel
theorem d_M_pairOf_19 : decode b_M_pairOf 19 = .ok (.getfield 35, 3) := by decide +kernel
theorem d_M_pairOf_22 : decode b_M_pairOf 22 = .ok (.aload_n 0, 1) := by decide +kernel
theorem d_M_pairOf_23 : decode b_M_pairOf 23 = .ok (.getfield 178, 3) := by decide +kernel
theorem d_M_pairOf_26 : decode b_M_pairOf 26 = .ok (.iconst 1, 1) := by decide +kernel
theorem d_M_pairOf_27 : decode b_M_pairOf 27 = .ok (.isub, 1) := by decide +kernel
theorem d_M_pairOf_28 : decode b_M_pairOf 28 = .ok (.iaload, 1) := by decide +kernel
theorem d_M_pairOf_29 : decode b_M_pairOf 29 = .ok (.isub, 1) := by decide +kernel
theorem d_M_pairOf_30 : decode b_M_pairOf 30 = .ok (.istore_n 1, 1) := by decide +kernel
theorem d_M_pairOf_31 : decode b_M_pairOf 31 = .ok (.iload_n 1, 1) := by decide +kernel
theorem d_M_pairOf_32 : decode b_M_pairOf 32 = .ok (.iconst 1, 1) := by decide +kernel
theorem d_M_pairOf_33 : decode b_M_pairOf 33 = .ok (.if_icmp .le 15, 3) := by decide +kernel
theorem d_M_pairOf_36 : decode b_M_pairOf 36 = .ok (.aload_n 0, 1) := by decide +kernel
theorem d_M_pairOf_37 : decode b_M_pairOf 37 = .ok (.iload_n 1, 1) := by decide +kernel
theorem d_M_pairOf_38 : decode b_M_pairOf 38 = .ok (.invokevirtual 199, 3) := by decide +kernel
theorem d_M_pairOf_41 : decode b_M_pairOf 41 = .ok (.ifCond .eq 7, 3) := by decide +kernel
theorem d_M_pairOf_44 : decode b_M_pairOf 44 = .ok (.iload_n 1, 1) := by decide +kernel
theorem d_M_pairOf_45 : decode b_M_pairOf 45 = .ok (.goto 7, 3) := by decide +kernel
theorem d_M_pairOf_48 : decode b_M_pairOf 48 = .ok (.aload_n 0, 1) := by decide +kernel
theorem d_M_pairOf_49 : decode b_M_pairOf 49 = .ok (.invokevirtual 264, 3) := by decide +kernel
theorem d_M_pairOf_52 : decode b_M_pairOf 52 = .ok (.ireturn, 1) := by decide +kernel
theorem d_M_greatestLeft_0 : decode b_M_greatestLeft 0 = .ok (.bipush 60, 2) := by decide +kernel
theorem d_M_greatestLeft_2 : decode b_M_greatestLeft 2 = .ok (.istore_n 1, 1) := by decide +kernel
theorem d_M_greatestLeft_3 : decode b_M_greatestLeft 3 = .ok (.iload_n 1, 1) := by decide +kernel
theorem d_M_greatestLeft_4 : decode b_M_greatestLeft 4 = .ok (.iconst 1, 1) := by decide +kernel
theorem d_M_greatestLeft_5 : decode b_M_greatestLeft 5 = .ok (.if_icmp .lt 19, 3) := by decide +kernel
theorem d_M_greatestLeft_8 : decode b_M_greatestLeft 8 = .ok (.aload_n 0, 1) := by decide +kernel
theorem d_M_greatestLeft_9 : decode b_M_greatestLeft 9 = .ok (.iload_n 1, 1) := by decide +kernel
theorem d_M_greatestLeft_10 : decode b_M_greatestLeft 10 = .ok (.invokevirtual 199, 3) := by decide +kernel
theorem d_M_greatestLeft_13 : decode b_M_greatestLeft 13 = .ok (.ifCond .eq 5, 3) := by decide +kernel
theorem d_M_greatestLeft_16 : decode b_M_greatestLeft 16 = .ok (.iload_n 1, 1) := by decide +kernel
theorem d_M_greatestLeft_17 : decode b_M_greatestLeft 17 = .ok (.ireturn, 1) := by decide +kernel
theorem d_M_greatestLeft_18 : decode b_M_greatestLeft 18 = .ok (.iinc 1 (-1), 3) := by decide +kernel
theorem d_M_greatestLeft_21 : decode b_M_greatestLeft 21 = .ok (.goto (-18), 3) := by decide +kernel
theorem d_M_greatestLeft_24 : decode b_M_greatestLeft 24 = .ok (.bipush (-9), 2) := by decide +kernel
theorem d_M_greatestLeft_26 : decode b_M_greatestLeft 26 = .ok (.ireturn, 1) := by decide +kernel
theorem d_M_leastAbove_0 : decode b_M_leastAbove 0 = .ok (.iconst 2, 1) := by decide +kernel
theorem d_M_leastAbove_1 : decode b_M_leastAbove 1 = .ok (.istore_n 1, 1) := by decide +kernel
theorem d_M_leastAbove_2 : decode b_M_leastAbove 2 = .ok (.iload_n 1, 1) := by decide +kernel
theorem d_M_leastAbove_3 : decode b_M_leastAbove 3 = .ok (.bipush 60, 2) := by decide +kernel
theorem d_M_leastAbove_5 : decode b_M_leastAbove 5 = .ok (.if_icmp .gt 19, 3) := by decide +kernel
theorem d_M_leastAbove_8 : decode b_M_leastAbove 8 = .ok (.aload_n 0, 1) := by decide +kernel
theorem d_M_leastAbove_9 : decode b_M_leastAbove 9 = .ok (.iload_n 1, 1) := by decide +kernel
theorem d_M_leastAbove_10 : decode b_M_leastAbove 10 = .ok (.invokevirtual 199, 3) := by decide +kernel
theorem d_M_leastAbove_13 : decode b_M_leastAbove 13 = .ok (.ifCond .eq 5, 3) := by decide +kernel
theorem d_M_leastAbove_16 : decode b_M_leastAbove 16 = .ok (.iload_n 1, 1) := by decide +kernel
theorem d_M_leastAbove_17 : decode b_M_leastAbove 17 = .ok (.ireturn, 1) := by decide +kernel
theorem d_M_leastAbove_18 : decode b_M_leastAbove 18 = .ok (.iinc 1 1, 3) := by decide +kernel
theorem d_M_leastAbove_21 : decode b_M_leastAbove 21 = .ok (.goto (-19), 3) := by decide +kernel
theorem d_M_leastAbove_24 : decode b_M_leastAbove 24 = .ok (.iconst 1, 1) := by decide +kernel
theorem d_M_leastAbove_25 : decode b_M_leastAbove 25 = .ok (.ireturn, 1) := by decide +kernel
theorem d_M_bestOf_0 : decode b_M_bestOf 0 = .ok (.aload_n 0, 1) := by decide +kernel
theorem d_M_bestOf_1 : decode b_M_bestOf 1 = .ok (.invokevirtual 245, 3) := by decide +kernel
theorem d_M_bestOf_4 : decode b_M_bestOf 4 = .ok (.ifCond .eq 38, 3) := by decide +kernel
theorem d_M_bestOf_7 : decode b_M_bestOf 7 = .ok (.aload_n 0, 1) := by decide +kernel
theorem d_M_bestOf_8 : decode b_M_bestOf 8 = .ok (.invokevirtual 248, 3) := by decide +kernel
theorem d_M_bestOf_11 : decode b_M_bestOf 11 = .ok (.iconst 1, 1) := by decide +kernel
theorem d_M_bestOf_12 : decode b_M_bestOf 12 = .ok (.istore_n 1, 1) := by decide +kernel
theorem d_M_bestOf_13 : decode b_M_bestOf 13 = .ok (.iload_n 1, 1) := by decide +kernel
theorem d_M_bestOf_14 : decode b_M_bestOf 14 = .ok (.aload_n 0, 1) := by decide +kernel
theorem d_M_bestOf_15 : decode b_M_bestOf 15 = .ok (.getfield 210, 3) := by decide +kernel
theorem d_M_bestOf_18 : decode b_M_bestOf 18 = .ok (.if_icmp .ge 24, 3) := by decide +kernel
theorem d_M_bestOf_21 : decode b_M_bestOf 21 = .ok (.aload_n 0, 1) := by decide +kernel
theorem d_M_bestOf_22 : decode b_M_bestOf 22 = .ok (.iload_n 1, 1) := by decide +kernel
theorem d_M_bestOf_23 : decode b_M_bestOf 23 = .ok (.invokevirtual 242, 3) := by decide +kernel
theorem d_M_bestOf_26 : decode b_M_bestOf 26 = .ok (.ifCond .eq 10, 3) := by decide +kernel
theorem d_M_bestOf_29 : decode b_M_bestOf 29 = .ok (.aload_n 0, 1) := by decide +kernel
theorem d_M_bestOf_30 : decode b_M_bestOf 30 = .ok (.getfield 63, 3) := by decide +kernel
theorem d_M_bestOf_33 : decode b_M_bestOf 33 = .ok (.iload_n 1, 1) := by decide +kernel
theorem d_M_bestOf_34 : decode b_M_bestOf 34 = .ok (.iaload, 1) := by decide +kernel
theorem d_M_bestOf_35 : decode b_M_bestOf 35 = .ok (.ireturn, 1) := by decide +kernel
theorem d_M_bestOf_36 : decode b_M_bestOf 36 = .ok (.iinc 1 1, 3) := by decide +kernel
theorem d_M_bestOf_39 : decode b_M_bestOf 39 = .ok (.goto (-26), 3) := by decide +kernel
theorem d_M_bestOf_42 : decode b_M_bestOf 42 = .ok (.aload_n 0, 1) := by decide +kernel
theorem d_M_bestOf_43 : decode b_M_bestOf 43 = .ok (.invokevirtual 264, 3) := by decide +kernel
theorem d_M_bestOf_46 : decode b_M_bestOf 46 = .ok (.ireturn, 1) := by decide +kernel
theorem d_M_chanceOf_0 : decode b_M_chanceOf 0 = .ok (.aload_n 0, 1) := by decide +kernel
theorem d_M_chanceOf_1 : decode b_M_chanceOf 1 = .ok (.ldc2_w 267, 3) := by decide +kernel
theorem d_M_chanceOf_4 : decode b_M_chanceOf 4 = .ok (.aload_n 0, 1) := by decide +kernel
theorem d_M_chanceOf_5 : decode b_M_chanceOf 5 = .ok (.getfield 269, 3) := by decide +kernel
theorem d_M_chanceOf_8 : decode b_M_chanceOf 8 = .ok (.lmul, 1) := by decide +kernel
theorem d_M_chanceOf_9 : decode b_M_chanceOf 9 = .ok (.ldc2_w 272, 3) := by decide +kernel
theorem d_M_chanceOf_12 : decode b_M_chanceOf 12 = .ok (.lrem, 1) := by decide +kernel
theorem d_M_chanceOf_13 : decode b_M_chanceOf 13 = .ok (.putfield 269, 3) := by decide +kernel
theorem d_M_chanceOf_16 : decode b_M_chanceOf 16 = .ok (.aload_n 0, 1) := by decide +kernel
theorem d_M_chanceOf_17 : decode b_M_chanceOf 17 = .ok (.invokevirtual 274, 3) := by decide +kernel
theorem d_M_chanceOf_20 : decode b_M_chanceOf 20 = .ok (.istore_n 1, 1) := by decide +kernel
theorem d_M_chanceOf_21 : decode b_M_chanceOf 21 = .ok (.iload_n 1, 1) := by decide +kernel
theorem d_M_chanceOf_22 : decode b_M_chanceOf 22 = .ok (.ifCond .ne 5, 3) := by decide +kernel
theorem d_M_chanceOf_25 : decode b_M_chanceOf 25 = .ok (.iconst 1, 1) := by decide +kernel
theorem d_M_chanceOf_26 : decode b_M_chanceOf 26 = .ok (.ireturn, 1) := by decide +kernel
theorem d_M_chanceOf_27 : decode b_M_chanceOf 27 = .ok (.aload_n 0, 1) := by decide +kernel
theorem d_M_chanceOf_28 : decode b_M_chanceOf 28 = .ok (.getfield 269, 3) := by decide +kernel
theorem d_M_chanceOf_31 : decode b_M_chanceOf 31 = .ok (.iload_n 1, 1) := by decide +kernel
theorem d_M_chanceOf_32 : decode b_M_chanceOf 32 = .ok (.i2l, 1) := by decide +kernel
theorem d_M_chanceOf_33 : decode b_M_chanceOf 33 = .ok (.lrem, 1) := by decide +kernel
theorem d_M_chanceOf_34 : decode b_M_chanceOf 34 = .ok (.l2i, 1) := by decide +kernel
theorem d_M_chanceOf_35 : decode b_M_chanceOf 35 = .ok (.istore_n 2, 1) := by decide +kernel
theorem d_M_chanceOf_36 : decode b_M_chanceOf 36 = .ok (.iconst 2, 1) := by decide +kernel
theorem d_M_chanceOf_37 : decode b_M_chanceOf 37 = .ok (.istore_n 3, 1) := by decide +kernel
theorem d_M_chanceOf_38 : decode b_M_chanceOf 38 = .ok (.aload_n 0, 1) := by decide +kernel
theorem d_M_chanceOf_39 : decode b_M_chanceOf 39 = .ok (.iload_n 3, 1) := by decide +kernel
theorem d_M_chanceOf_40 : decode b_M_chanceOf 40 = .ok (.invokevirtual 199, 3) := by decide +kernel
theorem d_M_chanceOf_43 : decode b_M_chanceOf 43 = .ok (.ifCond .eq 7, 3) := by decide +kernel
theorem d_M_chanceOf_46 : decode b_M_chanceOf 46 = .ok (.iload_n 2, 1) := by decide +kernel
theorem d_M_chanceOf_47 : decode b_M_chanceOf 47 = .ok (.ifCond .le 25, 3) := by decide +kernel
theorem d_M_chanceOf_50 : decode b_M_chanceOf 50 = .ok (.iload_n 2, 1) := by decide +kernel
theorem d_M_chanceOf_51 : decode b_M_chanceOf 51 = .ok (.aload_n 0, 1) := by decide +kernel
theorem d_M_chanceOf_52 : decode b_M_chanceOf 52 = .ok (.iload_n 3, 1) := by decide +kernel
theorem d_M_chanceOf_53 : decode b_M_chanceOf 53 = .ok (.invokevirtual 199, 3) := by decide +kernel
theorem d_M_chanceOf_56 : decode b_M_chanceOf 56 = .ok (.ifCond .eq 7, 3) := by decide +kernel
theorem d_M_chanceOf_59 : decode b_M_chanceOf 59 = .ok (.iconst 1, 1) := by decide +kernel
theorem d_M_chanceOf_60 : decode b_M_chanceOf 60 = .ok (.goto 4, 3) := by decide +kernel
theorem d_M_chanceOf_63 : decode b_M_chanceOf 63 = .ok (.iconst 0, 1) := by decide +kernel
theorem d_M_chanceOf_64 : decode b_M_chanceOf 64 = .ok (.isub, 1) := by decide +kernel
theorem d_M_chanceOf_65 : decode b_M_chanceOf 65 = .ok (.istore_n 2, 1) := by decide +kernel
theorem d_M_chanceOf_66 : decode b_M_chanceOf 66 = .ok (.iinc 3 1, 3) := by decide +kernel
theorem d_M_chanceOf_69 : decode b_M_chanceOf 69 = .ok (.goto (-31), 3) := by decide +kernel
theorem d_M_chanceOf_72 : decode b_M_chanceOf 72 = .ok (.iload_n 3, 1) := by decide +kernel
theorem d_M_chanceOf_73 : decode b_M_chanceOf 73 = .ok (.ireturn, 1) := by decide +kernel
theorem d_M_aboveMany_0 : decode b_M_aboveMany 0 = .ok (.iconst 0, 1) := by decide +kernel
theorem d_M_aboveMany_1 : decode b_M_aboveMany 1 = .ok (.istore_n 1, 1) := by decide +kernel
theorem d_M_aboveMany_2 : decode b_M_aboveMany 2 = .ok (.iconst 2, 1) := by decide +kernel
theorem d_M_aboveMany_3 : decode b_M_aboveMany 3 = .ok (.istore_n 2, 1) := by decide +kernel
theorem d_M_aboveMany_4 : decode b_M_aboveMany 4 = .ok (.iload_n 2, 1) := by decide +kernel
theorem d_M_aboveMany_5 : decode b_M_aboveMany 5 = .ok (.bipush 60, 2) := by decide +kernel
theorem d_M_aboveMany_7 : decode b_M_aboveMany 7 = .ok (.if_icmp .gt 25, 3) := by decide +kernel
theorem d_M_aboveMany_10 : decode b_M_aboveMany 10 = .ok (.iload_n 1, 1) := by decide +kernel
theorem d_M_aboveMany_11 : decode b_M_aboveMany 11 = .ok (.aload_n 0, 1) := by decide +kernel
theorem d_M_aboveMany_12 : decode b_M_aboveMany 12 = .ok (.iload_n 2, 1) := by decide +kernel
theorem d_M_aboveMany_13 : decode b_M_aboveMany 13 = .ok (.invokevirtual 199, 3) := by decide +kernel
theorem d_M_aboveMany_16 : decode b_M_aboveMany 16 = .ok (.ifCond .eq 7, 3) := by decide +kernel
theorem d_M_aboveMany_19 : decode b_M_aboveMany 19 = .ok (.iconst 1, 1) := by decide +kernel
theorem d_M_aboveMany_20 : decode b_M_aboveMany 20 = .ok (.goto 4, 3) := by decide +kernel
theorem d_M_aboveMany_23 : decode b_M_aboveMany 23 = .ok (.iconst 0, 1) := by decide +kernel
theorem d_M_aboveMany_24 : decode b_M_aboveMany 24 = .ok (.iadd, 1) := by decide +kernel
theorem d_M_aboveMany_25 : decode b_M_aboveMany 25 = .ok (.istore_n 1, 1) := by decide +kernel
theorem d_M_aboveMany_26 : decode b_M_aboveMany 26 = .ok (.iinc 2 1, 3) := by decide +kernel
theorem d_M_aboveMany_29 : decode b_M_aboveMany 29 = .ok (.goto (-25), 3) := by decide +kernel
theorem d_M_aboveMany_32 : decode b_M_aboveMany 32 = .ok (.iload_n 1, 1) := by decide +kernel
theorem d_M_aboveMany_33 : decode b_M_aboveMany 33 = .ok (.ireturn, 1) := by decide +kernel
theorem d_M_mark_0 : decode b_M_mark 0 = .ok (.aload_n 0, 1) := by decide +kernel
theorem d_M_mark_1 : decode b_M_mark 1 = .ok (.iload_n 1, 1) := by decide +kernel
theorem d_M_mark_2 : decode b_M_mark 2 = .ok (.invokevirtual 181, 3) := by decide +kernel
theorem d_M_mark_5 : decode b_M_mark 5 = .ok (.ifCond .eq 12, 3) := by decide +kernel
theorem d_M_mark_8 : decode b_M_mark 8 = .ok (.iload_n 2, 1) := by decide +kernel
theorem d_M_mark_9 : decode b_M_mark 9 = .ok (.iconst 1, 1) := by decide +kernel
theorem d_M_mark_10 : decode b_M_mark 10 = .ok (.iconst 5, 1) := by decide +kernel
theorem d_M_mark_11 : decode b_M_mark 11 = .ok (.invokestatic 96, 3) := by decide +kernel
theorem d_M_mark_14 : decode b_M_mark 14 = .ok (.ifCond .ne 5, 3) := by decide +kernel
theorem d_M_mark_17 : decode b_M_mark 17 = .ok (.iconst (-1), 1) := by decide +kernel
theorem d_M_mark_18 : decode b_M_mark 18 = .ok (.ireturn, 1) := by decide +kernel
theorem d_M_mark_19 : decode b_M_mark 19 = .ok (.aload_n 0, 1) := by decide +kernel
theorem d_M_mark_20 : decode b_M_mark 20 = .ok (.getfield 32, 3) := by decide +kernel
theorem d_M_mark_23 : decode b_M_mark 23 = .ok (.iload_n 1, 1) := by decide +kernel
theorem d_M_mark_24 : decode b_M_mark 24 = .ok (.iaload, 1) := by decide +kernel
theorem d_M_mark_25 : decode b_M_mark 25 = .ok (.istore_n 3, 1) := by decide +kernel
theorem d_M_mark_26 : decode b_M_mark 26 = .ok (.iload_n 3, 1) := by decide +kernel
theorem d_M_mark_27 : decode b_M_mark 27 = .ok (.iload_n 2, 1) := by decide +kernel
theorem d_M_mark_28 : decode b_M_mark 28 = .ok (.if_icmp .eq 29, 3) := by decide +kernel
theorem d_M_mark_31 : decode b_M_mark 31 = .ok (.iload_n 2, 1) := by decide +kernel
theorem d_M_mark_32 : decode b_M_mark 32 = .ok (.iconst 1, 1) := by decide +kernel
theorem d_M_mark_33 : decode b_M_mark 33 = .ok (.if_icmp .ne 8, 3) := by decide +kernel
theorem d_M_mark_36 : decode b_M_mark 36 = .ok (.iload_n 3, 1) := by decide +kernel
theorem d_M_mark_37 : decode b_M_mark 37 = .ok (.iconst 4, 1) := by decide +kernel
theorem d_M_mark_38 : decode b_M_mark 38 = .ok (.if_icmp .eq 19, 3) := by decide +kernel
theorem d_M_mark_41 : decode b_M_mark 41 = .ok (.iload_n 2, 1) := by decide +kernel
theorem d_M_mark_42 : decode b_M_mark 42 = .ok (.iconst 2, 1) := by decide +kernel
theorem d_M_mark_43 : decode b_M_mark 43 = .ok (.if_icmp .ne 8, 3) := by decide +kernel
theorem d_M_mark_46 : decode b_M_mark 46 = .ok (.iload_n 3, 1) := by decide +kernel
theorem d_M_mark_47 : decode b_M_mark 47 = .ok (.iconst 5, 1) := by decide +kernel
theorem d_M_mark_48 : decode b_M_mark 48 = .ok (.if_icmp .eq 9, 3) := by decide +kernel
theorem d_M_mark_51 : decode b_M_mark 51 = .ok (.aload_n 0, 1) := by decide +kernel
theorem d_M_mark_52 : decode b_M_mark 52 = .ok (.iconst 3, 1) := by decide +kernel
theorem d_M_mark_53 : decode b_M_mark 53 = .ok (.invokevirtual 114, 3) := by decide +kernel
theorem d_M_mark_56 : decode b_M_mark 56 = .ok (.ireturn, 1) := by decide +kernel
theorem d_M_mark_57 : decode b_M_mark 57 = .ok (.iload_n 2, 1) := by decide +kernel
theorem d_M_mark_58 : decode b_M_mark 58 = .ok (.tableswitch 122 1 4 #[30, 53, 98, 117], 30) := by decide +kernel
theorem d_M_mark_88 : decode b_M_mark 88 = .ok (.aload_n 0, 1) := by decide +kernel
theorem d_M_mark_89 : decode b_M_mark 89 = .ok (.invokevirtual 196, 3) := by decide +kernel
theorem d_M_mark_92 : decode b_M_mark 92 = .ok (.ifCond .eq 8, 3) := by decide +kernel
theorem d_M_mark_95 : decode b_M_mark 95 = .ok (.bipush (-4), 2) := by decide +kernel
theorem d_M_mark_97 : decode b_M_mark 97 = .ok (.goto 13, 3) := by decide +kernel
theorem d_M_mark_100 : decode b_M_mark 100 = .ok (.aload_n 0, 1) := by decide +kernel
theorem d_M_mark_101 : decode b_M_mark 101 = .ok (.aload_n 0, 1) := by decide +kernel
theorem d_M_mark_102 : decode b_M_mark 102 = .ok (.iload_n 1, 1) := by decide +kernel
theorem d_M_mark_103 : decode b_M_mark 103 = .ok (.iconst 0, 1) := by decide +kernel
theorem d_M_mark_104 : decode b_M_mark 104 = .ok (.invokevirtual 290, 3) := by decide +kernel
theorem d_M_mark_107 : decode b_M_mark 107 = .ok (.invokevirtual 294, 3) := by decide +kernel
theorem d_M_mark_110 : decode b_M_mark 110 = .ok (.ireturn, 1) := by decide +kernel
theorem d_M_mark_111 : decode b_M_mark 111 = .ok (.aload_n 0, 1) := by decide +kernel
theorem d_M_mark_112 : decode b_M_mark 112 = .ok (.invokevirtual 261, 3) := by decide +kernel
theorem d_M_mark_115 : decode b_M_mark 115 = .ok (.istore 4, 2) := by decide +kernel
theorem d_M_mark_117 : decode b_M_mark 117 = .ok (.iload 4, 2) := by decide +kernel
theorem d_M_mark_119 : decode b_M_mark 119 = .ok (.bipush (-9), 2) := by decide +kernel
theorem d_M_mark_121 : decode b_M_mark 121 = .ok (.if_icmp .ne 8, 3) := by decide +kernel
theorem d_M_mark_124 : decode b_M_mark 124 = .ok (.bipush (-9), 2) := by decide +kernel
theorem d_M_mark_126 : decode b_M_mark 126 = .ok (.goto 29, 3) := by decide +kernel
theorem d_M_mark_129 : decode b_M_mark 129 = .ok (.aload_n 0, 1) := by decide +kernel
theorem d_M_mark_130 : decode b_M_mark 130 = .ok (.getfield 178, 3) := by decide +kernel
theorem d_M_mark_133 : decode b_M_mark 133 = .ok (.ifCond .ne 8, 3) := by decide +kernel
theorem d_M_mark_136 : decode b_M_mark 136 = .ok (.iload 4, 2) := by decide +kernel
theorem d_M_mark_138 : decode b_M_mark 138 = .ok (.goto 17, 3) := by decide +kernel
theorem d_M_mark_141 : decode b_M_mark 141 = .ok (.iload 4, 2) := by decide +kernel
theorem d_M_mark_143 : decode b_M_mark 143 = .ok (.aload_n 0, 1) := by decide +kernel
theorem d_M_mark_144 : decode b_M_mark 144 = .ok (.getfield 35, 3) := by decide +kernel
theorem d_M_mark_147 : decode b_M_mark 147 = .ok (.aload_n 0, 1) := by decide +kernel
theorem d_M_mark_148 : decode b_M_mark 148 = .ok (.getfield 178, 3) := by decide +kernel
theorem d_M_mark_151 : decode b_M_mark 151 = .ok (.iconst 1, 1) := by decide +kernel
theorem d_M_mark_152 : decode b_M_mark 152 = .ok (.isub, 1) := by decide +kernel
theorem d_M_mark_153 : decode b_M_mark 153 = .ok (.iaload, 1) := by decide +kernel
theorem d_M_mark_154 : decode b_M_mark 154 = .ok (.isub, 1) := by decide +kernel
theorem d_M_mark_155 : decode b_M_mark 155 = .ok (.ireturn, 1) := by decide +kernel
theorem d_M_mark_156 : decode b_M_mark 156 = .ok (.aload_n 0, 1) := by decide +kernel
theorem d_M_mark_157 : decode b_M_mark 157 = .ok (.invokevirtual 245, 3) := by decide +kernel
theorem d_M_mark_160 : decode b_M_mark 160 = .ok (.ifCond .ne 6, 3) := by decide +kernel
theorem d_M_mark_163 : decode b_M_mark 163 = .ok (.bipush (-9), 2) := by decide +kernel
theorem d_M_mark_165 : decode b_M_mark 165 = .ok (.ireturn, 1) := by decide +kernel
theorem d_M_mark_166 : decode b_M_mark 166 = .ok (.aload_n 0, 1) := by decide +kernel
theorem d_M_mark_167 : decode b_M_mark 167 = .ok (.invokevirtual 248, 3) := by decide +kernel
theorem d_M_mark_170 : decode b_M_mark 170 = .ok (.aload_n 0, 1) := by decide +kernel
theorem d_M_mark_171 : decode b_M_mark 171 = .ok (.invokevirtual 254, 3) := by decide +kernel
theorem d_M_mark_174 : decode b_M_mark 174 = .ok (.ireturn, 1) := by decide +kernel
theorem d_M_mark_175 : decode b_M_mark 175 = .ok (.aload_n 0, 1) := by decide +kernel
theorem d_M_mark_176 : decode b_M_mark 176 = .ok (.invokevirtual 192, 3) := by decide +kernel
theorem d_M_mark_179 : decode b_M_mark 179 = .ok (.ireturn, 1) := by decide +kernel
theorem d_M_mark_180 : decode b_M_mark 180 = .ok (.aload_n 0, 1) := by decide +kernel
theorem d_M_mark_181 : decode b_M_mark 181 = .ok (.invokevirtual 274, 3) := by decide +kernel
theorem d_M_mark_184 : decode b_M_mark 184 = .ok (.ireturn, 1) := by decide +kernel
theorem d_M_leftBehind_0 : decode b_M_leftBehind 0 = .ok (.aload_n 0, 1) := by decide +kernel
theorem d_M_leftBehind_1 : decode b_M_leftBehind 1 = .ok (.invokevirtual 226, 3) := by decide +kernel
theorem d_M_leftBehind_4 : decode b_M_leftBehind 4 = .ok (.aload_n 0, 1) := by decide +kernel
theorem d_M_leftBehind_5 : decode b_M_leftBehind 5 = .ok (.getfield 60, 3) := by decide +kernel
theorem d_M_leftBehind_8 : decode b_M_leftBehind 8 = .ok (.aload_n 0, 1) := by decide +kernel
theorem d_M_leftBehind_9 : decode b_M_leftBehind 9 = .ok (.getfield 178, 3) := by decide +kernel
theorem d_M_leftBehind_12 : decode b_M_leftBehind 12 = .ok (.iload_n 1, 1) := by decide +kernel
theorem d_M_leftBehind_13 : decode b_M_leftBehind 13 = .ok (.iastore, 1) := by decide +kernel
theorem d_M_leftBehind_14 : decode b_M_leftBehind 14 = .ok (.aload_n 0, 1) := by decide +kernel
theorem d_M_leftBehind_15 : decode b_M_leftBehind 15 = .ok (.aload_n 0, 1) := by decide +kernel
theorem d_M_leftBehind_16 : decode b_M_leftBehind 16 = .ok (.getfield 60, 3) := by decide +kernel
theorem d_M_leftBehind_19 : decode b_M_leftBehind 19 = .ok (.aload_n 0, 1) := by decide +kernel
theorem d_M_leftBehind_20 : decode b_M_leftBehind 20 = .ok (.getfield 178, 3) := by decide +kernel
theorem d_M_leftBehind_23 : decode b_M_leftBehind 23 = .ok (.iconst 1, 1) := by decide +kernel
theorem d_M_leftBehind_24 : decode b_M_leftBehind 24 = .ok (.iadd, 1) := by decide +kernel
theorem d_M_leftBehind_25 : decode b_M_leftBehind 25 = .ok (.aload_n 0, 1) := by decide +kernel
theorem d_M_leftBehind_26 : decode b_M_leftBehind 26 = .ok (.getfield 172, 3) := by decide +kernel
theorem d_M_leftBehind_29 : decode b_M_leftBehind 29 = .ok (.invokevirtual 184, 3) := by decide +kernel
theorem d_M_leftBehind_32 : decode b_M_leftBehind 32 = .ok (.ireturn, 1) := by decide +kernel
theorem d_M_play_0 : decode b_M_play 0 = .ok (.iload_n 1, 1) := by decide +kernel
theorem d_M_play_1 : decode b_M_play 1 = .ok (.iconst 0, 1) := by decide +kernel
theorem d_M_play_2 : decode b_M_play 2 = .ok (.bipush 12, 2) := by decide +kernel
theorem d_M_play_4 : decode b_M_play 4 = .ok (.invokestatic 96, 3) := by decide +kernel
theorem d_M_play_7 : decode b_M_play 7 = .ok (.ifCond .eq 14, 3) := by decide +kernel
theorem d_M_play_10 : decode b_M_play 10 = .ok (.iload_n 2, 1) := by decide +kernel
theorem d_M_play_11 : decode b_M_play 11 = .ok (.iconst 1, 1) := by decide +kernel
theorem d_M_play_12 : decode b_M_play 12 = .ok (.ldc_w 297, 3) := by decide +kernel
theorem d_M_play_15 : decode b_M_play 15 = .ok (.invokestatic 96, 3) := by decide +kernel
theorem d_M_play_18 : decode b_M_play 18 = .ok (.ifCond .ne 5, 3) := by decide +kernel
theorem d_M_play_21 : decode b_M_play 21 = .ok (.iconst (-1), 1) := by decide +kernel
theorem d_M_play_22 : decode b_M_play 22 = .ok (.ireturn, 1) := by decide +kernel
theorem d_M_play_23 : decode b_M_play 23 = .ok (.aload_n 0, 1) := by decide +kernel
theorem d_M_play_24 : decode b_M_play 24 = .ok (.getfield 175, 3) := by decide +kernel
theorem d_M_play_27 : decode b_M_play 27 = .ok (.iconst 2, 1) := by decide +kernel
theorem d_M_play_28 : decode b_M_play 28 = .ok (.if_icmp .ge 6, 3) := by decide +kernel
theorem d_M_play_31 : decode b_M_play 31 = .ok (.bipush (-4), 2) := by decide +kernel
theorem d_M_play_33 : decode b_M_play 33 = .ok (.ireturn, 1) := by decide +kernel
theorem d_M_play_34 : decode b_M_play 34 = .ok (.aload_n 0, 1) := by decide +kernel
theorem d_M_play_35 : decode b_M_play 35 = .ok (.iload_n 2, 1) := by decide +kernel
theorem d_M_play_36 : decode b_M_play 36 = .ok (.i2l, 1) := by decide +kernel
theorem d_M_play_37 : decode b_M_play 37 = .ok (.putfield 269, 3) := by decide +kernel
theorem d_M_play_40 : decode b_M_play 40 = .ok (.iconst 0, 1) := by decide +kernel
theorem d_M_play_41 : decode b_M_play 41 = .ok (.istore_n 3, 1) := by decide +kernel
theorem d_M_play_42 : decode b_M_play 42 = .ok (.iload_n 3, 1) := by decide +kernel
theorem d_M_play_43 : decode b_M_play 43 = .ok (.iload_n 1, 1) := by decide +kernel
theorem d_M_play_44 : decode b_M_play 44 = .ok (.if_icmp .ge 59, 3) := by decide +kernel
theorem d_M_play_47 : decode b_M_play 47 = .ok (.aload_n 0, 1) := by decide +kernel
theorem d_M_play_48 : decode b_M_play 48 = .ok (.getfield 178, 3) := by decide +kernel
theorem d_M_play_51 : decode b_M_play 51 = .ok (.bipush 12, 2) := by decide +kernel
theorem d_M_play_53 : decode b_M_play 53 = .ok (.if_icmp .ge 50, 3) := by decide +kernel
theorem d_M_play_56 : decode b_M_play 56 = .ok (.aload_n 0, 1) := by decide +kernel
theorem d_M_play_57 : decode b_M_play 57 = .ok (.invokevirtual 196, 3) := by decide +kernel
theorem d_M_play_60 : decode b_M_play 60 = .ok (.ifCond .ne 43, 3) := by decide +kernel
theorem d_M_play_63 : decode b_M_play 63 = .ok (.aload_n 0, 1) := by decide +kernel
theorem d_M_play_64 : decode b_M_play 64 = .ok (.aload_n 0, 1) := by decide +kernel
theorem d_M_play_65 : decode b_M_play 65 = .ok (.getfield 178, 3) := by decide +kernel
theorem d_M_play_68 : decode b_M_play 68 = .ok (.iconst 2, 1) := by decide +kernel
theorem d_M_play_69 : decode b_M_play 69 = .ok (.irem, 1) := by decide +kernel
theorem d_M_play_70 : decode b_M_play 70 = .ok (.iconst 1, 1) := by decide +kernel
theorem d_M_play_71 : decode b_M_play 71 = .ok (.invokevirtual 290, 3) := by decide +kernel
theorem d_M_play_74 : decode b_M_play 74 = .ok (.istore 4, 2) := by decide +kernel
theorem d_M_play_76 : decode b_M_play 76 = .ok (.aload_n 0, 1) := by decide +kernel
theorem d_M_play_77 : decode b_M_play 77 = .ok (.getfield 35, 3) := by decide +kernel
theorem d_M_play_80 : decode b_M_play 80 = .ok (.aload_n 0, 1) := by decide +kernel
theorem d_M_play_81 : decode b_M_play 81 = .ok (.getfield 178, 3) := by decide +kernel
theorem d_M_play_84 : decode b_M_play 84 = .ok (.iload 4, 2) := by decide +kernel
theorem d_M_play_86 : decode b_M_play 86 = .ok (.iastore, 1) := by decide +kernel
theorem d_M_play_87 : decode b_M_play 87 = .ok (.aload_n 0, 1) := by decide +kernel
theorem d_M_play_88 : decode b_M_play 88 = .ok (.dup, 1) := by decide +kernel
theorem d_M_play_89 : decode b_M_play 89 = .ok (.getfield 178, 3) := by decide +kernel
theorem d_M_play_92 : decode b_M_play 92 = .ok (.iconst 1, 1) := by decide +kernel
theorem d_M_play_93 : decode b_M_play 93 = .ok (.iadd, 1) := by decide +kernel
theorem d_M_play_94 : decode b_M_play 94 = .ok (.putfield 178, 3) := by decide +kernel
theorem d_M_play_97 : decode b_M_play 97 = .ok (.iinc 3 1, 3) := by decide +kernel
theorem d_M_play_100 : decode b_M_play 100 = .ok (.goto (-58), 3) := by decide +kernel
theorem d_M_play_103 : decode b_M_play 103 = .ok (.iload_n 3, 1) := by decide +kernel
theorem d_M_play_104 : decode b_M_play 104 = .ok (.ireturn, 1) := by decide +kernel
theorem d_M_list_0 : decode b_M_list 0 = .ok (.iload_n 1, 1) := by decide +kernel
theorem d_M_list_1 : decode b_M_list 1 = .ok (.invokestatic 110, 3) := by decide +kernel
theorem d_M_list_4 : decode b_M_list 4 = .ok (.ifCond .ne 5, 3) := by decide +kernel
theorem d_M_list_7 : decode b_M_list 7 = .ok (.iconst (-1), 1) := by decide +kernel
theorem d_M_list_8 : decode b_M_list 8 = .ok (.ireturn, 1) := by decide +kernel
theorem d_M_list_9 : decode b_M_list 9 = .ok (.aload_n 0, 1) := by decide +kernel
theorem d_M_list_10 : decode b_M_list 10 = .ok (.iload_n 1, 1) := by decide +kernel
theorem d_M_list_11 : decode b_M_list 11 = .ok (.invokevirtual 298, 3) := by decide +kernel
theorem d_M_list_14 : decode b_M_list 14 = .ok (.istore_n 2, 1) := by decide +kernel
theorem d_M_list_15 : decode b_M_list 15 = .ok (.iload_n 2, 1) := by decide +kernel
theorem d_M_list_16 : decode b_M_list 16 = .ok (.ifCond .ge 5, 3) := by decide +kernel
theorem d_M_list_19 : decode b_M_list 19 = .ok (.iload_n 2, 1) := by decide +kernel
theorem d_M_list_20 : decode b_M_list 20 = .ok (.ireturn, 1) := by decide +kernel
theorem d_M_list_21 : decode b_M_list 21 = .ok (.aload_n 0, 1) := by decide +kernel
theorem d_M_list_22 : decode b_M_list 22 = .ok (.invokevirtual 301, 3) := by decide +kernel
theorem d_M_list_25 : decode b_M_list 25 = .ok (.istore_n 3, 1) := by decide +kernel
theorem d_M_list_26 : decode b_M_list 26 = .ok (.aload_n 0, 1) := by decide +kernel
theorem d_M_list_27 : decode b_M_list 27 = .ok (.iload_n 3, 1) := by decide +kernel
theorem d_M_list_28 : decode b_M_list 28 = .ok (.iload_n 3, 1) := by decide +kernel
theorem d_M_list_29 : decode b_M_list 29 = .ok (.ifCond .ne 7, 3) := by decide +kernel
theorem d_M_list_32 : decode b_M_list 32 = .ok (.iconst 1, 1) := by decide +kernel
theorem d_M_list_33 : decode b_M_list 33 = .ok (.goto 4, 3) := by decide +kernel
theorem d_M_list_36 : decode b_M_list 36 = .ok (.iconst 0, 1) := by decide +kernel
theorem d_M_list_37 : decode b_M_list 37 = .ok (.invokevirtual 121, 3) := by decide +kernel
theorem d_M_list_40 : decode b_M_list 40 = .ok (.ireturn, 1) := by decide +kernel
theorem d_M_needList_0 : decode b_M_needList 0 = .ok (.aload_n 0, 1) := by decide +kernel
theorem d_M_needList_1 : decode b_M_needList 1 = .ok (.getfield 13, 3) := by decide +kernel
theorem d_M_needList_4 : decode b_M_needList 4 = .ok (.iload_n 1, 1) := by decide +kernel
theorem d_M_needList_5 : decode b_M_needList 5 = .ok (.iaload, 1) := by decide +kernel
theorem d_M_needList_6 : decode b_M_needList 6 = .ok (.ifCond .ge 9, 3) := by decide +kernel
theorem d_M_needList_9 : decode b_M_needList 9 = .ok (.aload_n 0, 1) := by decide +kernel
theorem d_M_needList_10 : decode b_M_needList 10 = .ok (.iconst 1, 1) := by decide +kernel
theorem d_M_needList_11 : decode b_M_needList 11 = .ok (.invokevirtual 114, 3) := by decide +kernel
theorem d_M_needList_14 : decode b_M_needList 14 = .ok (.ireturn, 1) := by decide +kernel
theorem d_M_needList_15 : decode b_M_needList 15 = .ok (.iconst 0, 1) := by decide +kernel
theorem d_M_needList_16 : decode b_M_needList 16 = .ok (.istore_n 2, 1) := by decide +kernel
theorem d_M_needList_17 : decode b_M_needList 17 = .ok (.iload_n 2, 1) := by decide +kernel
theorem d_M_needList_18 : decode b_M_needList 18 = .ok (.bipush 122, 2) := by decide +kernel
theorem d_M_needList_20 : decode b_M_needList 20 = .ok (.if_icmp .ge 16, 3) := by decide +kernel
theorem d_M_needList_23 : decode b_M_needList 23 = .ok (.aload_n 0, 1) := by decide +kernel
theorem d_M_needList_24 : decode b_M_needList 24 = .ok (.getfield 79, 3) := by decide +kernel
theorem d_M_needList_27 : decode b_M_needList 27 = .ok (.iload_n 2, 1) := by decide +kernel
theorem d_M_needList_28 : decode b_M_needList 28 = .ok (.iconst 0, 1) := by decide +kernel
theorem d_M_needList_29 : decode b_M_needList 29 = .ok (.bastore, 1) := by decide +kernel
theorem d_M_needList_30 : decode b_M_needList 30 = .ok (.iinc 2 1, 3) := by decide +kernel
theorem d_M_needList_33 : decode b_M_needList 33 = .ok (.goto (-16), 3) := by decide +kernel
theorem d_M_needList_36 : decode b_M_needList 36 = .ok (.iconst 1, 1) := by decide +kernel
theorem d_M_needList_37 : decode b_M_needList 37 = .ok (.istore_n 2, 1) := by decide +kernel
theorem d_M_needList_38 : decode b_M_needList 38 = .ok (.iconst 0, 1) := by decide +kernel
theorem d_M_needList_39 : decode b_M_needList 39 = .ok (.istore_n 3, 1) := by decide +kernel
theorem d_M_needList_40 : decode b_M_needList 40 = .ok (.iload_n 3, 1) := by decide +kernel
theorem d_M_needList_41 : decode b_M_needList 41 = .ok (.aload_n 0, 1) := by decide +kernel
theorem d_M_needList_42 : decode b_M_needList 42 = .ok (.getfield 13, 3) := by decide +kernel
theorem d_M_needList_45 : decode b_M_needList 45 = .ok (.iload_n 1, 1) := by decide +kernel
theorem d_M_needList_46 : decode b_M_needList 46 = .ok (.iaload, 1) := by decide +kernel
theorem d_M_needList_47 : decode b_M_needList 47 = .ok (.if_icmp .ge 60, 3) := by decide +kernel
theorem d_M_needList_50 : decode b_M_needList 50 = .ok (.iload_n 2, 1) := by decide +kernel
theorem d_M_needList_51 : decode b_M_needList 51 = .ok (.ifCond .eq 56, 3) := by decide +kernel
theorem d_M_needList_54 : decode b_M_needList 54 = .ok (.aload_n 0, 1) := by decide +kernel
theorem d_M_needList_55 : decode b_M_needList 55 = .ok (.iload_n 1, 1) := by decide +kernel
theorem d_M_needList_56 : decode b_M_needList 56 = .ok (.iload_n 3, 1) := by decide +kernel
theorem d_M_needList_57 : decode b_M_needList 57 = .ok (.invokevirtual 118, 3) := by decide +kernel
theorem d_M_needList_60 : decode b_M_needList 60 = .ok (.istore 4, 2) := by decide +kernel
theorem d_M_needList_62 : decode b_M_needList 62 = .ok (.iload 4, 2) := by decide +kernel
theorem d_M_needList_64 : decode b_M_needList 64 = .ok (.iconst 1, 1) := by decide +kernel
theorem d_M_needList_65 : decode b_M_needList 65 = .ok (.bipush 60, 2) := by decide +kernel
theorem d_M_needList_67 : decode b_M_needList 67 = .ok (.invokestatic 96, 3) := by decide +kernel
theorem d_M_needList_70 : decode b_M_needList 70 = .ok (.ifCond .eq 17, 3) := by decide +kernel
theorem d_M_needList_73 : decode b_M_needList 73 = .ok (.aload_n 0, 1) := by decide +kernel
theorem d_M_needList_74 : decode b_M_needList 74 = .ok (.getfield 79, 3) := by decide +kernel
theorem d_M_needList_77 : decode b_M_needList 77 = .ok (.iload 4, 2) := by decide +kernel
theorem d_M_needList_79 : decode b_M_needList 79 = .ok (.baload, 1) := by decide +kernel
theorem d_M_needList_80 : decode b_M_needList 80 = .ok (.ifCond .ne 7, 3) := by decide +kernel
theorem d_M_needList_83 : decode b_M_needList 83 = .ok (.iconst 1, 1) := by decide +kernel
theorem d_M_needList_84 : decode b_M_needList 84 = .ok (.goto 4, 3) := by decide +kernel
theorem d_M_needList_87 : decode b_M_needList 87 = .ok (.iconst 0, 1) := by decide +kernel
theorem d_M_needList_88 : decode b_M_needList 88 = .ok (.istore_n 2, 1) := by decide +kernel
theorem d_M_needList_89 : decode b_M_needList 89 = .ok (.iload_n 2, 1) := by decide +kernel
theorem d_M_needList_90 : decode b_M_needList 90 = .ok (.ifCond .eq 11, 3) := by decide +kernel
theorem d_M_needList_93 : decode b_M_needList 93 = .ok (.aload_n 0, 1) := by decide +kernel
theorem d_M_needList_94 : decode b_M_needList 94 = .ok (.getfield 79, 3) := by decide +kernel
theorem d_M_needList_97 : decode b_M_needList 97 = .ok (.iload 4, 2) := by decide +kernel
theorem d_M_needList_99 : decode b_M_needList 99 = .ok (.iconst 1, 1) := by decide +kernel
theorem d_M_needList_100 : decode b_M_needList 100 = .ok (.bastore, 1) := by decide +kernel
theorem d_M_needList_101 : decode b_M_needList 101 = .ok (.iinc 3 1, 3) := by decide +kernel
theorem d_M_needList_104 : decode b_M_needList 104 = .ok (.goto (-64), 3) := by decide +kernel
theorem d_M_needList_107 : decode b_M_needList 107 = .ok (.iload_n 2, 1) := by decide +kernel
theorem d_M_needList_108 : decode b_M_needList 108 = .ok (.ifCond .eq 7, 3) := by decide +kernel
theorem d_M_needList_111 : decode b_M_needList 111 = .ok (.iconst 0, 1) := by decide +kernel
theorem d_M_needList_112 : decode b_M_needList 112 = .ok (.goto 8, 3) := by decide +kernel
theorem d_M_needList_115 : decode b_M_needList 115 = .ok (.aload_n 0, 1) := by decide +kernel
theorem d_M_needList_116 : decode b_M_needList 116 = .ok (.iconst 3, 1) := by decide +kernel
theorem d_M_needList_117 : decode b_M_needList 117 = .ok (.invokevirtual 114, 3) := by decide +kernel
theorem d_M_needList_120 : decode b_M_needList 120 = .ok (.ireturn, 1) := by decide +kernel
theorem d_M_wrongSum_0 : decode b_M_wrongSum 0 = .ok (.iconst 2, 1) := by decide +kernel
theorem d_M_wrongSum_1 : decode b_M_wrongSum 1 = .ok (.istore_n 1, 1) := by decide +kernel
theorem d_M_wrongSum_2 : decode b_M_wrongSum 2 = .ok (.iload_n 1, 1) := by decide +kernel
theorem d_M_wrongSum_3 : decode b_M_wrongSum 3 = .ok (.bipush 60, 2) := by decide +kernel
theorem d_M_wrongSum_5 : decode b_M_wrongSum 5 = .ok (.if_icmp .gt 55, 3) := by decide +kernel
theorem d_M_wrongSum_8 : decode b_M_wrongSum 8 = .ok (.iconst 1, 1) := by decide +kernel
theorem d_M_wrongSum_9 : decode b_M_wrongSum 9 = .ok (.istore_n 2, 1) := by decide +kernel
theorem d_M_wrongSum_10 : decode b_M_wrongSum 10 = .ok (.iconst 2, 1) := by decide +kernel
theorem d_M_wrongSum_11 : decode b_M_wrongSum 11 = .ok (.iload_n 2, 1) := by decide +kernel
theorem d_M_wrongSum_12 : decode b_M_wrongSum 12 = .ok (.imul, 1) := by decide +kernel
theorem d_M_wrongSum_13 : decode b_M_wrongSum 13 = .ok (.iload_n 1, 1) := by decide +kernel
theorem d_M_wrongSum_14 : decode b_M_wrongSum 14 = .ok (.if_icmp .gt 40, 3) := by decide +kernel
theorem d_M_wrongSum_17 : decode b_M_wrongSum 17 = .ok (.aload_n 0, 1) := by decide +kernel
theorem d_M_wrongSum_18 : decode b_M_wrongSum 18 = .ok (.getfield 79, 3) := by decide +kernel
theorem d_M_wrongSum_21 : decode b_M_wrongSum 21 = .ok (.iload_n 1, 1) := by decide +kernel
theorem d_M_wrongSum_22 : decode b_M_wrongSum 22 = .ok (.baload, 1) := by decide +kernel
theorem d_M_wrongSum_23 : decode b_M_wrongSum 23 = .ok (.ifCond .eq 25, 3) := by decide +kernel
theorem d_M_wrongSum_26 : decode b_M_wrongSum 26 = .ok (.aload_n 0, 1) := by decide +kernel
theorem d_M_wrongSum_27 : decode b_M_wrongSum 27 = .ok (.getfield 79, 3) := by decide +kernel
theorem d_M_wrongSum_30 : decode b_M_wrongSum 30 = .ok (.iload_n 2, 1) := by decide +kernel
theorem d_M_wrongSum_31 : decode b_M_wrongSum 31 = .ok (.baload, 1) := by decide +kernel
theorem d_M_wrongSum_32 : decode b_M_wrongSum 32 = .ok (.ifCond .ne 16, 3) := by decide +kernel
theorem d_M_wrongSum_35 : decode b_M_wrongSum 35 = .ok (.aload_n 0, 1) := by decide +kernel
theorem d_M_wrongSum_36 : decode b_M_wrongSum 36 = .ok (.getfield 79, 3) := by decide +kernel
theorem d_M_wrongSum_39 : decode b_M_wrongSum 39 = .ok (.iload_n 1, 1) := by decide +kernel
theorem d_M_wrongSum_40 : decode b_M_wrongSum 40 = .ok (.iload_n 2, 1) := by decide +kernel
theorem d_M_wrongSum_41 : decode b_M_wrongSum 41 = .ok (.isub, 1) := by decide +kernel
theorem d_M_wrongSum_42 : decode b_M_wrongSum 42 = .ok (.baload, 1) := by decide +kernel
theorem d_M_wrongSum_43 : decode b_M_wrongSum 43 = .ok (.ifCond .ne 5, 3) := by decide +kernel
theorem d_M_wrongSum_46 : decode b_M_wrongSum 46 = .ok (.iload_n 1, 1) := by decide +kernel
theorem d_M_wrongSum_47 : decode b_M_wrongSum 47 = .ok (.ireturn, 1) := by decide +kernel
theorem d_M_wrongSum_48 : decode b_M_wrongSum 48 = .ok (.iinc 2 1, 3) := by decide +kernel
theorem d_M_wrongSum_51 : decode b_M_wrongSum 51 = .ok (.goto (-41), 3) := by decide +kernel
theorem d_M_wrongSum_54 : decode b_M_wrongSum 54 = .ok (.iinc 1 1, 3) := by decide +kernel
theorem d_M_wrongSum_57 : decode b_M_wrongSum 57 = .ok (.goto (-55), 3) := by decide +kernel
theorem d_M_wrongSum_60 : decode b_M_wrongSum 60 = .ok (.iconst 0, 1) := by decide +kernel
theorem d_M_wrongSum_61 : decode b_M_wrongSum 61 = .ok (.ireturn, 1) := by decide +kernel
theorem d_M_makes_0 : decode b_M_makes 0 = .ok (.iload_n 1, 1) := by decide +kernel
theorem d_M_makes_1 : decode b_M_makes 1 = .ok (.invokestatic 110, 3) := by decide +kernel
theorem d_M_makes_4 : decode b_M_makes 4 = .ok (.ifCond .eq 10, 3) := by decide +kernel
theorem d_M_makes_7 : decode b_M_makes 7 = .ok (.iload_n 2, 1) := by decide +kernel
theorem d_M_makes_8 : decode b_M_makes 8 = .ok (.invokestatic 110, 3) := by decide +kernel
theorem d_M_makes_11 : decode b_M_makes 11 = .ok (.ifCond .ne 5, 3) := by decide +kernel
theorem d_M_makes_14 : decode b_M_makes 14 = .ok (.iconst (-1), 1) := by decide +kernel
theorem d_M_makes_15 : decode b_M_makes 15 = .ok (.ireturn, 1) := by decide +kernel
theorem d_M_makes_16 : decode b_M_makes 16 = .ok (.aload_n 0, 1) := by decide +kernel
theorem d_M_makes_17 : decode b_M_makes 17 = .ok (.iload_n 1, 1) := by decide +kernel
theorem d_M_makes_18 : decode b_M_makes 18 = .ok (.invokevirtual 298, 3) := by decide +kernel
theorem d_M_makes_21 : decode b_M_makes 21 = .ok (.istore_n 3, 1) := by decide +kernel
theorem d_M_makes_22 : decode b_M_makes 22 = .ok (.iload_n 3, 1) := by decide +kernel
theorem d_M_makes_23 : decode b_M_makes 23 = .ok (.ifCond .ge 5, 3) := by decide +kernel
theorem d_M_makes_26 : decode b_M_makes 26 = .ok (.iload_n 3, 1) := by decide +kernel
theorem d_M_makes_27 : decode b_M_makes 27 = .ok (.ireturn, 1) := by decide +kernel
theorem d_M_makes_28 : decode b_M_makes 28 = .ok (.aload_n 0, 1) := by decide +kernel
theorem d_M_makes_29 : decode b_M_makes 29 = .ok (.invokevirtual 301, 3) := by decide +kernel
theorem d_M_makes_32 : decode b_M_makes 32 = .ok (.ifCond .eq 9, 3) := by decide +kernel
theorem d_M_makes_35 : decode b_M_makes 35 = .ok (.aload_n 0, 1) := by decide +kernel
theorem d_M_makes_36 : decode b_M_makes 36 = .ok (.iconst 3, 1) := by decide +kernel
theorem d_M_makes_37 : decode b_M_makes 37 = .ok (.invokevirtual 114, 3) := by decide +kernel
theorem d_M_makes_40 : decode b_M_makes 40 = .ok (.ireturn, 1) := by decide +kernel
theorem d_M_makes_41 : decode b_M_makes 41 = .ok (.iconst 0, 1) := by decide +kernel
theorem d_M_makes_42 : decode b_M_makes 42 = .ok (.istore 4, 2) := by decide +kernel
theorem d_M_makes_44 : decode b_M_makes 44 = .ok (.iconst 0, 1) := by decide +kernel
theorem d_M_makes_45 : decode b_M_makes 45 = .ok (.istore 5, 2) := by decide +kernel
theorem d_M_makes_47 : decode b_M_makes 47 = .ok (.iload 5, 2) := by decide +kernel
theorem d_M_makes_49 : decode b_M_makes 49 = .ok (.bipush 60, 2) := by decide +kernel
theorem d_M_makes_51 : decode b_M_makes 51 = .ok (.if_icmp .ge 22, 3) := by decide +kernel
theorem d_M_makes_54 : decode b_M_makes 54 = .ok (.aload_n 0, 1) := by decide +kernel
theorem d_M_makes_55 : decode b_M_makes 55 = .ok (.getfield 16, 3) := by decide +kernel
theorem d_M_makes_58 : decode b_M_makes 58 = .ok (.bipush 60, 2) := by decide +kernel
theorem d_M_makes_60 : decode b_M_makes 60 = .ok (.iload_n 2, 1) := by decide +kernel
theorem d_M_makes_61 : decode b_M_makes 61 = .ok (.imul, 1) := by decide +kernel
theorem d_M_makes_62 : decode b_M_makes 62 = .ok (.iload 5, 2) := by decide +kernel
theorem d_M_makes_64 : decode b_M_makes 64 = .ok (.iadd, 1) := by decide +kernel
theorem d_M_makes_65 : decode b_M_makes 65 = .ok (.iconst 0, 1) := by decide +kernel
theorem d_M_makes_66 : decode b_M_makes 66 = .ok (.iastore, 1) := by decide +kernel
theorem d_M_makes_67 : decode b_M_makes 67 = .ok (.iinc 5 1, 3) := by decide +kernel
theorem d_M_makes_70 : decode b_M_makes 70 = .ok (.goto (-23), 3) := by decide +kernel
theorem d_M_makes_73 : decode b_M_makes 73 = .ok (.iconst 1, 1) := by decide +kernel
theorem d_M_makes_74 : decode b_M_makes 74 = .ok (.istore 5, 2) := by decide +kernel
theorem d_M_makes_76 : decode b_M_makes 76 = .ok (.iload 5, 2) := by decide +kernel
theorem d_M_makes_78 : decode b_M_makes 78 = .ok (.bipush 122, 2) := by decide +kernel
theorem d_M_makes_80 : decode b_M_makes 80 = .ok (.if_icmp .ge 42, 3) := by decide +kernel
theorem d_M_makes_83 : decode b_M_makes 83 = .ok (.aload_n 0, 1) := by decide +kernel
theorem d_M_makes_84 : decode b_M_makes 84 = .ok (.iload 5, 2) := by decide +kernel
theorem d_M_makes_86 : decode b_M_makes 86 = .ok (.invokevirtual 304, 3) := by decide +kernel
theorem d_M_makes_89 : decode b_M_makes 89 = .ok (.ifCond .eq 27, 3) := by decide +kernel
theorem d_M_makes_92 : decode b_M_makes 92 = .ok (.iload 4, 2) := by decide +kernel
theorem d_M_makes_94 : decode b_M_makes 94 = .ok (.bipush 60, 2) := by decide +kernel
theorem d_M_makes_96 : decode b_M_makes 96 = .ok (.if_icmp .ge 17, 3) := by decide +kernel
theorem d_M_makes_99 : decode b_M_makes 99 = .ok (.aload_n 0, 1) := by decide +kernel
theorem d_M_makes_100 : decode b_M_makes 100 = .ok (.getfield 16, 3) := by decide +kernel
theorem d_M_makes_103 : decode b_M_makes 103 = .ok (.bipush 60, 2) := by decide +kernel
theorem d_M_makes_105 : decode b_M_makes 105 = .ok (.iload_n 2, 1) := by decide +kernel
theorem d_M_makes_106 : decode b_M_makes 106 = .ok (.imul, 1) := by decide +kernel
theorem d_M_makes_107 : decode b_M_makes 107 = .ok (.iload 4, 2) := by decide +kernel
theorem d_M_makes_109 : decode b_M_makes 109 = .ok (.iadd, 1) := by decide +kernel
theorem d_M_makes_110 : decode b_M_makes 110 = .ok (.iload 5, 2) := by decide +kernel
theorem d_M_makes_112 : decode b_M_makes 112 = .ok (.iastore, 1) := by decide +kernel
theorem d_M_makes_113 : decode b_M_makes 113 = .ok (.iinc 4 1, 3) := by decide +kernel
theorem d_M_makes_116 : decode b_M_makes 116 = .ok (.iinc 5 1, 3) := by decide +kernel
theorem d_M_makes_119 : decode b_M_makes 119 = .ok (.goto (-43), 3) := by decide +kernel
theorem d_M_makes_122 : decode b_M_makes 122 = .ok (.aload_n 0, 1) := by decide +kernel
theorem d_M_makes_123 : decode b_M_makes 123 = .ok (.getfield 13, 3) := by decide +kernel
theorem d_M_makes_126 : decode b_M_makes 126 = .ok (.iload_n 2, 1) := by decide +kernel
theorem d_M_makes_127 : decode b_M_makes 127 = .ok (.iload 4, 2) := by decide +kernel
theorem d_M_makes_129 : decode b_M_makes 129 = .ok (.bipush 60, 2) := by decide +kernel
theorem d_M_makes_131 : decode b_M_makes 131 = .ok (.invokestatic 128, 3) := by decide +kernel
theorem d_M_makes_134 : decode b_M_makes 134 = .ok (.iastore, 1) := by decide +kernel
theorem d_M_makes_135 : decode b_M_makes 135 = .ok (.iload 4, 2) := by decide +kernel
theorem d_M_makes_137 : decode b_M_makes 137 = .ok (.ireturn, 1) := by decide +kernel
theorem d_M_isMaker_0 : decode b_M_isMaker 0 = .ok (.aload_n 0, 1) := by decide +kernel
theorem d_M_isMaker_1 : decode b_M_isMaker 1 = .ok (.getfield 79, 3) := by decide +kernel
theorem d_M_isMaker_4 : decode b_M_isMaker 4 = .ok (.iload_n 1, 1) := by decide +kernel
theorem d_M_isMaker_5 : decode b_M_isMaker 5 = .ok (.baload, 1) := by decide +kernel
theorem d_M_isMaker_6 : decode b_M_isMaker 6 = .ok (.ifCond .ne 7, 3) := by decide +kernel
theorem d_M_isMaker_9 : decode b_M_isMaker 9 = .ok (.iconst 1, 1) := by decide +kernel
theorem d_M_isMaker_10 : decode b_M_isMaker 10 = .ok (.goto 4, 3) := by decide +kernel
theorem d_M_isMaker_13 : decode b_M_isMaker 13 = .ok (.iconst 0, 1) := by decide +kernel
theorem d_M_isMaker_14 : decode b_M_isMaker 14 = .ok (.istore_n 2, 1) := by decide +kernel
theorem d_M_isMaker_15 : decode b_M_isMaker 15 = .ok (.iconst 1, 1) := by decide +kernel
theorem d_M_isMaker_16 : decode b_M_isMaker 16 = .ok (.istore_n 3, 1) := by decide +kernel
theorem d_M_isMaker_17 : decode b_M_isMaker 17 = .ok (.iconst 2, 1) := by decide +kernel
theorem d_M_isMaker_18 : decode b_M_isMaker 18 = .ok (.iload_n 3, 1) := by decide +kernel
theorem d_M_isMaker_19 : decode b_M_isMaker 19 = .ok (.imul, 1) := by decide +kernel
theorem d_M_isMaker_20 : decode b_M_isMaker 20 = .ok (.iload_n 1, 1) := by decide +kernel
theorem d_M_isMaker_21 : decode b_M_isMaker 21 = .ok (.if_icmp .gt 39, 3) := by decide +kernel
theorem d_M_isMaker_24 : decode b_M_isMaker 24 = .ok (.iload_n 2, 1) := by decide +kernel
theorem d_M_isMaker_25 : decode b_M_isMaker 25 = .ok (.ifCond .eq 27, 3) := by decide +kernel
theorem d_M_isMaker_28 : decode b_M_isMaker 28 = .ok (.aload_n 0, 1) := by decide +kernel
theorem d_M_isMaker_29 : decode b_M_isMaker 29 = .ok (.getfield 79, 3) := by decide +kernel
theorem d_M_isMaker_32 : decode b_M_isMaker 32 = .ok (.iload_n 3, 1) := by decide +kernel
theorem d_M_isMaker_33 : decode b_M_isMaker 33 = .ok (.baload, 1) := by decide +kernel
theorem d_M_isMaker_34 : decode b_M_isMaker 34 = .ok (.ifCond .ne 14, 3) := by decide +kernel
theorem d_M_isMaker_37 : decode b_M_isMaker 37 = .ok (.aload_n 0, 1) := by decide +kernel
theorem d_M_isMaker_38 : decode b_M_isMaker 38 = .ok (.getfield 79, 3) := by decide +kernel
theorem d_M_isMaker_41 : decode b_M_isMaker 41 = .ok (.iload_n 1, 1) := by decide +kernel
theorem d_M_isMaker_42 : decode b_M_isMaker 42 = .ok (.iload_n 3, 1) := by decide +kernel
theorem d_M_isMaker_43 : decode b_M_isMaker 43 = .ok (.isub, 1) := by decide +kernel
theorem d_M_isMaker_44 : decode b_M_isMaker 44 = .ok (.baload, 1) := by decide +kernel
theorem d_M_isMaker_45 : decode b_M_isMaker 45 = .ok (.ifCond .eq 7, 3) := by decide +kernel
theorem d_M_isMaker_48 : decode b_M_isMaker 48 = .ok (.iconst 1, 1) := by decide +kernel
theorem d_M_isMaker_49 : decode b_M_isMaker 49 = .ok (.goto 4, 3) := by decide +kernel
theorem d_M_isMaker_52 : decode b_M_isMaker 52 = .ok (.iconst 0, 1) := by decide +kernel
theorem d_M_isMaker_53 : decode b_M_isMaker 53 = .ok (.istore_n 2, 1) := by decide +kernel
theorem d_M_isMaker_54 : decode b_M_isMaker 54 = .ok (.iinc 3 1, 3) := by decide +kernel
theorem d_M_isMaker_57 : decode b_M_isMaker 57 = .ok (.goto (-40), 3) := by decide +kernel
theorem d_M_isMaker_60 : decode b_M_isMaker 60 = .ok (.iload_n 2, 1) := by decide +kernel
theorem d_M_isMaker_61 : decode b_M_isMaker 61 = .ok (.ireturn, 1) := by decide +kernel
theorem d_M_tree_0 : decode b_M_tree 0 = .ok (.iload_n 1, 1) := by decide +kernel
theorem d_M_tree_1 : decode b_M_tree 1 = .ok (.iconst 0, 1) := by decide +kernel
theorem d_M_tree_2 : decode b_M_tree 2 = .ok (.bipush 9, 2) := by decide +kernel
theorem d_M_tree_4 : decode b_M_tree 4 = .ok (.invokestatic 96, 3) := by decide +kernel
theorem d_M_tree_7 : decode b_M_tree 7 = .ok (.ifCond .eq 13, 3) := by decide +kernel
theorem d_M_tree_10 : decode b_M_tree 10 = .ok (.iload_n 2, 1) := by decide +kernel
theorem d_M_tree_11 : decode b_M_tree 11 = .ok (.iconst 0, 1) := by decide +kernel
theorem d_M_tree_12 : decode b_M_tree 12 = .ok (.bipush 17, 2) := by decide +kernel
theorem d_M_tree_14 : decode b_M_tree 14 = .ok (.invokestatic 96, 3) := by decide +kernel
theorem d_M_tree_17 : decode b_M_tree 17 = .ok (.ifCond .ne 5, 3) := by decide +kernel
theorem d_M_tree_20 : decode b_M_tree 20 = .ok (.iconst (-1), 1) := by decide +kernel
theorem d_M_tree_21 : decode b_M_tree 21 = .ok (.ireturn, 1) := by decide +kernel
theorem d_M_tree_22 : decode b_M_tree 22 = .ok (.aload_n 0, 1) := by decide +kernel
theorem d_M_tree_23 : decode b_M_tree 23 = .ok (.getfield 82, 3) := by decide +kernel
theorem d_M_tree_26 : decode b_M_tree 26 = .ok (.iconst 0, 1) := by decide +kernel
theorem d_M_tree_27 : decode b_M_tree 27 = .ok (.iconst 0, 1) := by decide +kernel
theorem d_M_tree_28 : decode b_M_tree 28 = .ok (.iastore, 1) := by decide +kernel
theorem d_M_tree_29 : decode b_M_tree 29 = .ok (.iconst 1, 1) := by decide +kernel
theorem d_M_tree_30 : decode b_M_tree 30 = .ok (.istore_n 3, 1) := by decide +kernel
theorem d_M_tree_31 : decode b_M_tree 31 = .ok (.iconst 0, 1) := by decide +kernel
theorem d_M_tree_32 : decode b_M_tree 32 = .ok (.istore 4, 2) := by decide +kernel
theorem d_M_tree_34 : decode b_M_tree 34 = .ok (.iload 4, 2) := by decide +kernel
theorem d_M_tree_36 : decode b_M_tree 36 = .ok (.iload_n 1, 1) := by decide +kernel
theorem d_M_tree_37 : decode b_M_tree 37 = .ok (.if_icmp .ge 127, 3) := by decide +kernel
theorem d_M_tree_40 : decode b_M_tree 40 = .ok (.iconst 0, 1) := by decide +kernel
theorem d_M_tree_41 : decode b_M_tree 41 = .ok (.istore 5, 2) := by decide +kernel
theorem d_M_tree_43 : decode b_M_tree 43 = .ok (.iconst 0, 1) := by decide +kernel
theorem d_M_tree_44 : decode b_M_tree 44 = .ok (.istore 6, 2) := by decide +kernel
theorem d_M_tree_46 : decode b_M_tree 46 = .ok (.iload 6, 2) := by decide +kernel
theorem d_M_tree_48 : decode b_M_tree 48 = .ok (.iload_n 3, 1) := by decide +kernel
theorem d_M_tree_49 : decode b_M_tree 49 = .ok (.if_icmp .ge 77, 3) := by decide +kernel
theorem d_M_tree_52 : decode b_M_tree 52 = .ok (.aload_n 0, 1) := by decide +kernel
theorem d_M_tree_53 : decode b_M_tree 53 = .ok (.getfield 82, 3) := by decide +kernel
theorem d_M_tree_56 : decode b_M_tree 56 = .ok (.iload 6, 2) := by decide +kernel
theorem d_M_tree_58 : decode b_M_tree 58 = .ok (.iaload, 1) := by decide +kernel
theorem d_M_tree_59 : decode b_M_tree 59 = .ok (.invokestatic 307, 3) := by decide +kernel
theorem d_M_tree_62 : decode b_M_tree 62 = .ok (.iconst 1, 1) := by decide +kernel
theorem d_M_tree_63 : decode b_M_tree 63 = .ok (.iadd, 1) := by decide +kernel
theorem d_M_tree_64 : decode b_M_tree 64 = .ok (.istore 7, 2) := by decide +kernel
theorem d_M_tree_66 : decode b_M_tree 66 = .ok (.iload 7, 2) := by decide +kernel
theorem d_M_tree_68 : decode b_M_tree 68 = .ok (.iconst 2, 1) := by decide +kernel
theorem d_M_tree_69 : decode b_M_tree 69 = .ok (.iload 4, 2) := by decide +kernel
theorem d_M_tree_71 : decode b_M_tree 71 = .ok (.imul, 1) := by decide +kernel
theorem d_M_tree_72 : decode b_M_tree 72 = .ok (.iconst 1, 1) := by decide +kernel
theorem d_M_tree_73 : decode b_M_tree 73 = .ok (.iadd, 1) := by decide +kernel
theorem d_M_tree_74 : decode b_M_tree 74 = .ok (.if_icmp .gt 46, 3) := by decide +kernel
theorem d_M_tree_77 : decode b_M_tree 77 = .ok (.aload_n 0, 1) := by decide +kernel
theorem d_M_tree_78 : decode b_M_tree 78 = .ok (.getfield 82, 3) := by decide +kernel
theorem d_M_tree_81 : decode b_M_tree 81 = .ok (.iload 6, 2) := by decide +kernel
theorem d_M_tree_83 : decode b_M_tree 83 = .ok (.iaload, 1) := by decide +kernel
theorem d_M_tree_84 : decode b_M_tree 84 = .ok (.iload 7, 2) := by decide +kernel
theorem d_M_tree_86 : decode b_M_tree 86 = .ok (.invokestatic 310, 3) := by decide +kernel
theorem d_M_tree_89 : decode b_M_tree 89 = .ok (.ifCond .eq 25, 3) := by decide +kernel
theorem d_M_tree_92 : decode b_M_tree 92 = .ok (.aload_n 0, 1) := by decide +kernel
theorem d_M_tree_93 : decode b_M_tree 93 = .ok (.getfield 85, 3) := by decide +kernel
theorem d_M_tree_96 : decode b_M_tree 96 = .ok (.iload 5, 2) := by decide +kernel
theorem d_M_tree_98 : decode b_M_tree 98 = .ok (.aload_n 0, 1) := by decide +kernel
theorem d_M_tree_99 : decode b_M_tree 99 = .ok (.getfield 82, 3) := by decide +kernel
theorem d_M_tree_102 : decode b_M_tree 102 = .ok (.iload 6, 2) := by decide +kernel
theorem d_M_tree_104 : decode b_M_tree 104 = .ok (.iaload, 1) := by decide +kernel
theorem d_M_tree_105 : decode b_M_tree 105 = .ok (.iconst 1, 1) := by decide +kernel
theorem d_M_tree_106 : decode b_M_tree 106 = .ok (.iload 7, 2) := by decide +kernel
theorem d_M_tree_108 : decode b_M_tree 108 = .ok (.ishl, 1) := by decide +kernel
theorem d_M_tree_109 : decode b_M_tree 109 = .ok (.ior, 1) := by decide +kernel
theorem d_M_tree_110 : decode b_M_tree 110 = .ok (.iastore, 1) := by decide +kernel
theorem d_M_tree_111 : decode b_M_tree 111 = .ok (.iinc 5 1, 3) := by decide +kernel
theorem d_M_tree_114 : decode b_M_tree 114 = .ok (.iinc 7 1, 3) := by decide +kernel
theorem d_M_tree_117 : decode b_M_tree 117 = .ok (.goto (-51), 3) := by decide +kernel
theorem d_M_tree_120 : decode b_M_tree 120 = .ok (.iinc 6 1, 3) := by decide +kernel
theorem d_M_tree_123 : decode b_M_tree 123 = .ok (.goto (-77), 3) := by decide +kernel
theorem d_M_tree_126 : decode b_M_tree 126 = .ok (.iload 5, 2) := by decide +kernel
theorem d_M_tree_128 : decode b_M_tree 128 = .ok (.istore_n 3, 1) := by decide +kernel
theorem d_M_tree_129 : decode b_M_tree 129 = .ok (.iconst 0, 1) := by decide +kernel
theorem d_M_tree_130 : decode b_M_tree 130 = .ok (.istore 6, 2) := by decide +kernel
theorem d_M_tree_132 : decode b_M_tree 132 = .ok (.iload 6, 2) := by decide +kernel
theorem d_M_tree_134 : decode b_M_tree 134 = .ok (.iload_n 3, 1) := by decide +kernel
theorem d_M_tree_135 : decode b_M_tree 135 = .ok (.if_icmp .ge 23, 3) := by decide +kernel
theorem d_M_tree_138 : decode b_M_tree 138 = .ok (.aload_n 0, 1) := by decide +kernel
theorem d_M_tree_139 : decode b_M_tree 139 = .ok (.getfield 82, 3) := by decide +kernel
theorem d_M_tree_142 : decode b_M_tree 142 = .ok (.iload 6, 2) := by decide +kernel
theorem d_M_tree_144 : decode b_M_tree 144 = .ok (.aload_n 0, 1) := by decide +kernel
theorem d_M_tree_145 : decode b_M_tree 145 = .ok (.getfield 85, 3) := by decide +kernel
theorem d_M_tree_148 : decode b_M_tree 148 = .ok (.iload 6, 2) := by decide +kernel
theorem d_M_tree_150 : decode b_M_tree 150 = .ok (.iaload, 1) := by decide +kernel
theorem d_M_tree_151 : decode b_M_tree 151 = .ok (.iastore, 1) := by decide +kernel
theorem d_M_tree_152 : decode b_M_tree 152 = .ok (.iinc 6 1, 3) := by decide +kernel
theorem d_M_tree_155 : decode b_M_tree 155 = .ok (.goto (-23), 3) := by decide +kernel
theorem d_M_tree_158 : decode b_M_tree 158 = .ok (.iinc 4 1, 3) := by decide +kernel
theorem d_M_tree_161 : decode b_M_tree 161 = .ok (.goto (-127), 3) := by decide +kernel
theorem d_M_tree_164 : decode b_M_tree 164 = .ok (.iconst 0, 1) := by decide +kernel
theorem d_M_tree_165 : decode b_M_tree 165 = .ok (.istore 4, 2) := by decide +kernel
theorem d_M_tree_167 : decode b_M_tree 167 = .ok (.iconst 0, 1) := by decide +kernel
theorem d_M_tree_168 : decode b_M_tree 168 = .ok (.istore 5, 2) := by decide +kernel
theorem d_M_tree_170 : decode b_M_tree 170 = .ok (.iload 5, 2) := by decide +kernel
theorem d_M_tree_172 : decode b_M_tree 172 = .ok (.iload_n 3, 1) := by decide +kernel
theorem d_M_tree_173 : decode b_M_tree 173 = .ok (.if_icmp .ge 33, 3) := by decide +kernel
theorem d_M_tree_176 : decode b_M_tree 176 = .ok (.iload 4, 2) := by decide +kernel
theorem d_M_tree_178 : decode b_M_tree 178 = .ok (.aload_n 0, 1) := by decide +kernel
theorem d_M_tree_179 : decode b_M_tree 179 = .ok (.getfield 82, 3) := by decide +kernel
theorem d_M_tree_182 : decode b_M_tree 182 = .ok (.iload 5, 2) := by decide +kernel
theorem d_M_tree_184 : decode b_M_tree 184 = .ok (.iaload, 1) := by decide +kernel
theorem d_M_tree_185 : decode b_M_tree 185 = .ok (.invokestatic 307, 3) := by decide +kernel
theorem d_M_tree_188 : decode b_M_tree 188 = .ok (.iload_n 2, 1) := by decide +kernel
theorem d_M_tree_189 : decode b_M_tree 189 = .ok (.if_icmp .ne 7, 3) := by decide +kernel
theorem d_M_tree_192 : decode b_M_tree 192 = .ok (.iconst 1, 1) := by decide +kernel
theorem d_M_tree_193 : decode b_M_tree 193 = .ok (.goto 4, 3) := by decide +kernel
theorem d_M_tree_196 : decode b_M_tree 196 = .ok (.iconst 0, 1) := by decide +kernel
theorem d_M_tree_197 : decode b_M_tree 197 = .ok (.iadd, 1) := by decide +kernel
theorem d_M_tree_198 : decode b_M_tree 198 = .ok (.istore 4, 2) := by decide +kernel
theorem d_M_tree_200 : decode b_M_tree 200 = .ok (.iinc 5 1, 3) := by decide +kernel
theorem d_M_tree_203 : decode b_M_tree 203 = .ok (.goto (-33), 3) := by decide +kernel
theorem d_M_tree_206 : decode b_M_tree 206 = .ok (.aload_n 0, 1) := by decide +kernel
theorem d_M_tree_207 : decode b_M_tree 207 = .ok (.iload_n 3, 1) := by decide +kernel
theorem d_M_tree_208 : decode b_M_tree 208 = .ok (.i2l, 1) := by decide +kernel
theorem d_M_tree_209 : decode b_M_tree 209 = .ok (.iconst 1, 1) := by decide +kernel
theorem d_M_tree_210 : decode b_M_tree 210 = .ok (.invokevirtual 202, 3) := by decide +kernel
theorem d_M_tree_213 : decode b_M_tree 213 = .ok (.pop, 1) := by decide +kernel
theorem d_M_tree_214 : decode b_M_tree 214 = .ok (.aload_n 0, 1) := by decide +kernel
theorem d_M_tree_215 : decode b_M_tree 215 = .ok (.iload 4, 2) := by decide +kernel
theorem d_M_tree_217 : decode b_M_tree 217 = .ok (.iconst 1, 1) := by decide +kernel
theorem d_M_tree_218 : decode b_M_tree 218 = .ok (.invokevirtual 121, 3) := by decide +kernel
theorem d_M_tree_221 : decode b_M_tree 221 = .ok (.ireturn, 1) := by decide +kernel
theorem d_M_topOf_0 : decode b_M_topOf 0 = .ok (.iconst 0, 1) := by decide +kernel
theorem d_M_topOf_1 : decode b_M_topOf 1 = .ok (.istore_n 1, 1) := by decide +kernel
theorem d_M_topOf_2 : decode b_M_topOf 2 = .ok (.iconst 1, 1) := by decide +kernel
theorem d_M_topOf_3 : decode b_M_topOf 3 = .ok (.istore_n 2, 1) := by decide +kernel
theorem d_M_topOf_4 : decode b_M_topOf 4 = .ok (.iload_n 2, 1) := by decide +kernel
theorem d_M_topOf_5 : decode b_M_topOf 5 = .ok (.bipush 24, 2) := by decide +kernel
theorem d_M_topOf_7 : decode b_M_topOf 7 = .ok (.if_icmp .ge 23, 3) := by decide +kernel
theorem d_M_topOf_10 : decode b_M_topOf 10 = .ok (.iload_n 0, 1) := by decide +kernel
theorem d_M_topOf_11 : decode b_M_topOf 11 = .ok (.iload_n 2, 1) := by decide +kernel
theorem d_M_topOf_12 : decode b_M_topOf 12 = .ok (.invokestatic 229, 3) := by decide +kernel
theorem d_M_topOf_15 : decode b_M_topOf 15 = .ok (.ifCond .eq 7, 3) := by decide +kernel
theorem d_M_topOf_18 : decode b_M_topOf 18 = .ok (.iload_n 2, 1) := by decide +kernel
