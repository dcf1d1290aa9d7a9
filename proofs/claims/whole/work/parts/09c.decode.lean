theorem d_In_bitCount_42 : decode b_In_bitCount 42 = .ok (.iload_n 0, 1) := by decide +kernel
theorem d_In_bitCount_43 : decode b_In_bitCount 43 = .ok (.bipush 16, 2) := by decide +kernel
theorem d_In_bitCount_45 : decode b_In_bitCount 45 = .ok (.iushr, 1) := by decide +kernel
theorem d_In_bitCount_46 : decode b_In_bitCount 46 = .ok (.iadd, 1) := by decide +kernel
theorem d_In_bitCount_47 : decode b_In_bitCount 47 = .ok (.istore_n 0, 1) := by decide +kernel
theorem d_In_bitCount_48 : decode b_In_bitCount 48 = .ok (.iload_n 0, 1) := by decide +kernel
theorem d_In_bitCount_49 : decode b_In_bitCount 49 = .ok (.bipush 63, 2) := by decide +kernel
theorem d_In_bitCount_51 : decode b_In_bitCount 51 = .ok (.iand, 1) := by decide +kernel
theorem d_In_bitCount_52 : decode b_In_bitCount 52 = .ok (.ireturn, 1) := by decide +kernel
theorem d_X_common_0 : decode b_X_common 0 = .ok (.aload_n 0, 1) := by decide +kernel
theorem d_X_common_1 : decode b_X_common 1 = .ok (.getfield 21, 3) := by decide +kernel
theorem d_X_common_4 : decode b_X_common 4 = .ok (.invokevirtual 213, 3) := by decide +kernel
theorem d_X_common_7 : decode b_X_common 7 = .ok (.ireturn, 1) := by decide +kernel
theorem d_X_from_0 : decode b_X_from 0 = .ok (.aload_n 0, 1) := by decide +kernel
theorem d_X_from_1 : decode b_X_from 1 = .ok (.getfield 69, 3) := by decide +kernel
theorem d_X_from_4 : decode b_X_from 4 = .ok (.aload_n 0, 1) := by decide +kernel
theorem d_X_from_5 : decode b_X_from 5 = .ok (.getfield 21, 3) := by decide +kernel
theorem d_X_from_8 : decode b_X_from 8 = .ok (.invokevirtual 233, 3) := by decide +kernel
theorem d_X_from_11 : decode b_X_from 11 = .ok (.aload_n 0, 1) := by decide +kernel
theorem d_X_from_12 : decode b_X_from 12 = .ok (.getfield 69, 3) := by decide +kernel
theorem d_X_from_15 : decode b_X_from 15 = .ok (.invokevirtual 235, 3) := by decide +kernel
theorem d_X_from_18 : decode b_X_from 18 = .ok (.ifCond .eq 8, 3) := by decide +kernel
theorem d_X_from_21 : decode b_X_from 21 = .ok (.bipush (-9), 2) := by decide +kernel
theorem d_X_from_23 : decode b_X_from 23 = .ok (.goto 12, 3) := by decide +kernel
theorem d_X_from_26 : decode b_X_from 26 = .ok (.aload_n 0, 1) := by decide +kernel
theorem d_X_from_27 : decode b_X_from 27 = .ok (.getfield 69, 3) := by decide +kernel
theorem d_X_from_30 : decode b_X_from 30 = .ok (.invokevirtual 241, 3) := by decide +kernel
theorem d_X_from_33 : decode b_X_from 33 = .ok (.iconst 1, 1) := by decide +kernel
theorem d_X_from_34 : decode b_X_from 34 = .ok (.iadd, 1) := by decide +kernel
theorem d_X_from_35 : decode b_X_from 35 = .ok (.ireturn, 1) := by decide +kernel
theorem d_X_wish_0 : decode b_X_wish 0 = .ok (.iload_n 1, 1) := by decide +kernel
theorem d_X_wish_1 : decode b_X_wish 1 = .ok (.iconst 1, 1) := by decide +kernel
theorem d_X_wish_2 : decode b_X_wish 2 = .ok (.if_icmp .lt 10, 3) := by decide +kernel
theorem d_X_wish_5 : decode b_X_wish 5 = .ok (.iload_n 1, 1) := by decide +kernel
theorem d_X_wish_6 : decode b_X_wish 6 = .ok (.sipush 4000, 3) := by decide +kernel
theorem d_X_wish_9 : decode b_X_wish 9 = .ok (.if_icmp .le 5, 3) := by decide +kernel
theorem d_X_wish_12 : decode b_X_wish 12 = .ok (.iconst (-1), 1) := by decide +kernel
theorem d_X_wish_13 : decode b_X_wish 13 = .ok (.ireturn, 1) := by decide +kernel
theorem d_X_wish_14 : decode b_X_wish 14 = .ok (.aload_n 0, 1) := by decide +kernel
theorem d_X_wish_15 : decode b_X_wish 15 = .ok (.getfield 69, 3) := by decide +kernel
theorem d_X_wish_18 : decode b_X_wish 18 = .ok (.aload_n 0, 1) := by decide +kernel
theorem d_X_wish_19 : decode b_X_wish 19 = .ok (.getfield 21, 3) := by decide +kernel
theorem d_X_wish_22 : decode b_X_wish 22 = .ok (.invokevirtual 233, 3) := by decide +kernel
theorem d_X_wish_25 : decode b_X_wish 25 = .ok (.aload_n 0, 1) := by decide +kernel
theorem d_X_wish_26 : decode b_X_wish 26 = .ok (.getfield 21, 3) := by decide +kernel
theorem d_X_wish_29 : decode b_X_wish 29 = .ok (.getfield 148, 3) := by decide +kernel
theorem d_X_wish_32 : decode b_X_wish 32 = .ok (.ifCond .ne 24, 3) := by decide +kernel
theorem d_X_wish_35 : decode b_X_wish 35 = .ok (.aload_n 0, 1) := by decide +kernel
theorem d_X_wish_36 : decode b_X_wish 36 = .ok (.getfield 69, 3) := by decide +kernel
theorem d_X_wish_39 : decode b_X_wish 39 = .ok (.invokevirtual 235, 3) := by decide +kernel
theorem d_X_wish_42 : decode b_X_wish 42 = .ok (.ifCond .ne 17, 3) := by decide +kernel
theorem d_X_wish_45 : decode b_X_wish 45 = .ok (.aload_n 0, 1) := by decide +kernel
theorem d_X_wish_46 : decode b_X_wish 46 = .ok (.getfield 69, 3) := by decide +kernel
theorem d_X_wish_49 : decode b_X_wish 49 = .ok (.invokevirtual 241, 3) := by decide +kernel
theorem d_X_wish_52 : decode b_X_wish 52 = .ok (.iload_n 1, 1) := by decide +kernel
theorem d_X_wish_53 : decode b_X_wish 53 = .ok (.if_icmp .ge 6, 3) := by decide +kernel
theorem d_X_wish_56 : decode b_X_wish 56 = .ok (.bipush (-4), 2) := by decide +kernel
theorem d_X_wish_58 : decode b_X_wish 58 = .ok (.ireturn, 1) := by decide +kernel
theorem d_X_wish_59 : decode b_X_wish 59 = .ok (.bipush (-9), 2) := by decide +kernel
theorem d_X_wish_61 : decode b_X_wish 61 = .ok (.istore_n 2, 1) := by decide +kernel
theorem d_X_wish_62 : decode b_X_wish 62 = .ok (.iconst 0, 1) := by decide +kernel
theorem d_X_wish_63 : decode b_X_wish 63 = .ok (.istore_n 3, 1) := by decide +kernel
theorem d_X_wish_64 : decode b_X_wish 64 = .ok (.iconst 2, 1) := by decide +kernel
theorem d_X_wish_65 : decode b_X_wish 65 = .ok (.istore 4, 2) := by decide +kernel
theorem d_X_wish_67 : decode b_X_wish 67 = .ok (.iload 4, 2) := by decide +kernel
theorem d_X_wish_69 : decode b_X_wish 69 = .ok (.bipush 60, 2) := by decide +kernel
theorem d_X_wish_71 : decode b_X_wish 71 = .ok (.if_icmp .gt 48, 3) := by decide +kernel
theorem d_X_wish_74 : decode b_X_wish 74 = .ok (.aload_n 0, 1) := by decide +kernel
theorem d_X_wish_75 : decode b_X_wish 75 = .ok (.getfield 21, 3) := by decide +kernel
theorem d_X_wish_78 : decode b_X_wish 78 = .ok (.iload 4, 2) := by decide +kernel
theorem d_X_wish_80 : decode b_X_wish 80 = .ok (.invokevirtual 196, 3) := by decide +kernel
theorem d_X_wish_83 : decode b_X_wish 83 = .ok (.ifCond .eq 30, 3) := by decide +kernel
theorem d_X_wish_86 : decode b_X_wish 86 = .ok (.aload_n 0, 1) := by decide +kernel
theorem d_X_wish_87 : decode b_X_wish 87 = .ok (.getfield 69, 3) := by decide +kernel
theorem d_X_wish_90 : decode b_X_wish 90 = .ok (.iload 4, 2) := by decide +kernel
theorem d_X_wish_92 : decode b_X_wish 92 = .ok (.invokevirtual 258, 3) := by decide +kernel
theorem d_X_wish_95 : decode b_X_wish 95 = .ok (.iload_n 1, 1) := by decide +kernel
theorem d_X_wish_96 : decode b_X_wish 96 = .ok (.if_icmp .ge 17, 3) := by decide +kernel
theorem d_X_wish_99 : decode b_X_wish 99 = .ok (.iload_n 3, 1) := by decide +kernel
theorem d_X_wish_100 : decode b_X_wish 100 = .ok (.ifCond .ne 8, 3) := by decide +kernel
theorem d_X_wish_103 : decode b_X_wish 103 = .ok (.iload 4, 2) := by decide +kernel
theorem d_X_wish_105 : decode b_X_wish 105 = .ok (.goto 4, 3) := by decide +kernel
theorem d_X_wish_108 : decode b_X_wish 108 = .ok (.iload_n 2, 1) := by decide +kernel
theorem d_X_wish_109 : decode b_X_wish 109 = .ok (.istore_n 2, 1) := by decide +kernel
theorem d_X_wish_110 : decode b_X_wish 110 = .ok (.iinc 3 1, 3) := by decide +kernel
theorem d_X_wish_113 : decode b_X_wish 113 = .ok (.iinc 4 1, 3) := by decide +kernel
theorem d_X_wish_116 : decode b_X_wish 116 = .ok (.goto (-49), 3) := by decide +kernel
theorem d_X_wish_119 : decode b_X_wish 119 = .ok (.iload_n 3, 1) := by decide +kernel
theorem d_X_wish_120 : decode b_X_wish 120 = .ok (.ifCond .le 8, 3) := by decide +kernel
theorem d_X_wish_123 : decode b_X_wish 123 = .ok (.aload_n 0, 1) := by decide +kernel
theorem d_X_wish_124 : decode b_X_wish 124 = .ok (.iload_n 3, 1) := by decide +kernel
theorem d_X_wish_125 : decode b_X_wish 125 = .ok (.putfield 99, 3) := by decide +kernel
theorem d_X_wish_128 : decode b_X_wish 128 = .ok (.iload_n 2, 1) := by decide +kernel
theorem d_X_wish_129 : decode b_X_wish 129 = .ok (.ireturn, 1) := by decide +kernel
theorem d_Su_greatestWith_0 : decode b_Su_greatestWith 0 = .ok (.aload_n 0, 1) := by decide +kernel
theorem d_Su_greatestWith_1 : decode b_Su_greatestWith 1 = .ok (.getfield 9, 3) := by decide +kernel
theorem d_Su_greatestWith_4 : decode b_Su_greatestWith 4 = .ok (.iconst 0, 1) := by decide +kernel
theorem d_Su_greatestWith_5 : decode b_Su_greatestWith 5 = .ok (.aload_n 0, 1) := by decide +kernel
theorem d_Su_greatestWith_6 : decode b_Su_greatestWith 6 = .ok (.getfield 15, 3) := by decide +kernel
theorem d_Su_greatestWith_9 : decode b_Su_greatestWith 9 = .ok (.iconst 0, 1) := by decide +kernel
theorem d_Su_greatestWith_10 : decode b_Su_greatestWith 10 = .ok (.bipush 60, 2) := by decide +kernel
theorem d_Su_greatestWith_12 : decode b_Su_greatestWith 12 = .ok (.invokestatic 64, 3) := by decide +kernel
theorem d_Su_greatestWith_15 : decode b_Su_greatestWith 15 = .ok (.aload_n 0, 1) := by decide +kernel
theorem d_Su_greatestWith_16 : decode b_Su_greatestWith 16 = .ok (.getfield 15, 3) := by decide +kernel
theorem d_Su_greatestWith_19 : decode b_Su_greatestWith 19 = .ok (.aload_n 0, 1) := by decide +kernel
theorem d_Su_greatestWith_20 : decode b_Su_greatestWith 20 = .ok (.getfield 30, 3) := by decide +kernel
theorem d_Su_greatestWith_23 : decode b_Su_greatestWith 23 = .ok (.iload_n 1, 1) := by decide +kernel
theorem d_Su_greatestWith_24 : decode b_Su_greatestWith 24 = .ok (.invokestatic 56, 3) := by decide +kernel
theorem d_Su_greatestWith_27 : decode b_Su_greatestWith 27 = .ok (.aload_n 0, 1) := by decide +kernel
theorem d_Su_greatestWith_28 : decode b_Su_greatestWith 28 = .ok (.getfield 15, 3) := by decide +kernel
theorem d_Su_greatestWith_31 : decode b_Su_greatestWith 31 = .ok (.aload_n 0, 1) := by decide +kernel
theorem d_Su_greatestWith_32 : decode b_Su_greatestWith 32 = .ok (.getfield 30, 3) := by decide +kernel
theorem d_Su_greatestWith_35 : decode b_Su_greatestWith 35 = .ok (.invokestatic 60, 3) := by decide +kernel
theorem d_Su_greatestWith_38 : decode b_Su_greatestWith 38 = .ok (.ireturn, 1) := by decide +kernel
theorem d_X_whose_0 : decode b_X_whose 0 = .ok (.aload_n 0, 1) := by decide +kernel
theorem d_X_whose_1 : decode b_X_whose 1 = .ok (.invokevirtual 261, 3) := by decide +kernel
theorem d_X_whose_4 : decode b_X_whose 4 = .ok (.istore_n 1, 1) := by decide +kernel
theorem d_X_whose_5 : decode b_X_whose 5 = .ok (.iload_n 1, 1) := by decide +kernel
theorem d_X_whose_6 : decode b_X_whose 6 = .ok (.ifCond .eq 5, 3) := by decide +kernel
theorem d_X_whose_9 : decode b_X_whose 9 = .ok (.iload_n 1, 1) := by decide +kernel
theorem d_X_whose_10 : decode b_X_whose 10 = .ok (.ireturn, 1) := by decide +kernel
theorem d_X_whose_11 : decode b_X_whose 11 = .ok (.aload_n 0, 1) := by decide +kernel
theorem d_X_whose_12 : decode b_X_whose 12 = .ok (.aload_n 0, 1) := by decide +kernel
theorem d_X_whose_13 : decode b_X_whose 13 = .ok (.getfield 76, 3) := by decide +kernel
theorem d_X_whose_16 : decode b_X_whose 16 = .ok (.invokevirtual 181, 3) := by decide +kernel
theorem d_X_whose_19 : decode b_X_whose 19 = .ok (.putfield 99, 3) := by decide +kernel
theorem d_X_whose_22 : decode b_X_whose 22 = .ok (.aload_n 0, 1) := by decide +kernel
theorem d_X_whose_23 : decode b_X_whose 23 = .ok (.getfield 99, 3) := by decide +kernel
theorem d_X_whose_26 : decode b_X_whose 26 = .ok (.ifCond .le 7, 3) := by decide +kernel
theorem d_X_whose_29 : decode b_X_whose 29 = .ok (.iconst 1, 1) := by decide +kernel
theorem d_X_whose_30 : decode b_X_whose 30 = .ok (.goto 4, 3) := by decide +kernel
theorem d_X_whose_33 : decode b_X_whose 33 = .ok (.iconst 0, 1) := by decide +kernel
theorem d_X_whose_34 : decode b_X_whose 34 = .ok (.ireturn, 1) := by decide +kernel
theorem d_X_refusedSolving_0 : decode b_X_refusedSolving 0 = .ok (.aload_n 0, 1) := by decide +kernel
theorem d_X_refusedSolving_1 : decode b_X_refusedSolving 1 = .ok (.getfield 21, 3) := by decide +kernel
theorem d_X_refusedSolving_4 : decode b_X_refusedSolving 4 = .ok (.getfield 148, 3) := by decide +kernel
theorem d_X_refusedSolving_7 : decode b_X_refusedSolving 7 = .ok (.ifCond .ne 13, 3) := by decide +kernel
theorem d_X_refusedSolving_10 : decode b_X_refusedSolving 10 = .ok (.aload_n 0, 1) := by decide +kernel
theorem d_X_refusedSolving_11 : decode b_X_refusedSolving 11 = .ok (.getfield 21, 3) := by decide +kernel
theorem d_X_refusedSolving_14 : decode b_X_refusedSolving 14 = .ok (.invokevirtual 159, 3) := by decide +kernel
theorem d_X_refusedSolving_17 : decode b_X_refusedSolving 17 = .ok (.ifCond .eq 6, 3) := by decide +kernel
theorem d_X_refusedSolving_20 : decode b_X_refusedSolving 20 = .ok (.bipush (-4), 2) := by decide +kernel
theorem d_X_refusedSolving_22 : decode b_X_refusedSolving 22 = .ok (.ireturn, 1) := by decide +kernel
theorem d_X_refusedSolving_23 : decode b_X_refusedSolving 23 = .ok (.aload_n 0, 1) := by decide +kernel
theorem d_X_refusedSolving_24 : decode b_X_refusedSolving 24 = .ok (.getfield 76, 3) := by decide +kernel
theorem d_X_refusedSolving_27 : decode b_X_refusedSolving 27 = .ok (.aload_n 0, 1) := by decide +kernel
theorem d_X_refusedSolving_28 : decode b_X_refusedSolving 28 = .ok (.getfield 21, 3) := by decide +kernel
theorem d_X_refusedSolving_31 : decode b_X_refusedSolving 31 = .ok (.invokevirtual 177, 3) := by decide +kernel
theorem d_X_refusedSolving_34 : decode b_X_refusedSolving 34 = .ok (.ifCond .eq 7, 3) := by decide +kernel
theorem d_X_refusedSolving_37 : decode b_X_refusedSolving 37 = .ok (.iconst 0, 1) := by decide +kernel
theorem d_X_refusedSolving_38 : decode b_X_refusedSolving 38 = .ok (.goto 5, 3) := by decide +kernel
theorem d_X_refusedSolving_41 : decode b_X_refusedSolving 41 = .ok (.bipush (-6), 2) := by decide +kernel
theorem d_X_refusedSolving_43 : decode b_X_refusedSolving 43 = .ok (.ireturn, 1) := by decide +kernel
theorem d_X_best_0 : decode b_X_best 0 = .ok (.iload_n 1, 1) := by decide +kernel
theorem d_X_best_1 : decode b_X_best 1 = .ok (.bipush 6, 2) := by decide +kernel
theorem d_X_best_3 : decode b_X_best 3 = .ok (.invokestatic 110, 3) := by decide +kernel
theorem d_X_best_6 : decode b_X_best 6 = .ok (.ifCond .ne 5, 3) := by decide +kernel
theorem d_X_best_9 : decode b_X_best 9 = .ok (.iconst (-1), 1) := by decide +kernel
theorem d_X_best_10 : decode b_X_best 10 = .ok (.ireturn, 1) := by decide +kernel
theorem d_X_best_11 : decode b_X_best 11 = .ok (.aload_n 0, 1) := by decide +kernel
theorem d_X_best_12 : decode b_X_best 12 = .ok (.invokevirtual 261, 3) := by decide +kernel
theorem d_X_best_15 : decode b_X_best 15 = .ok (.istore_n 2, 1) := by decide +kernel
theorem d_X_best_16 : decode b_X_best 16 = .ok (.iload_n 2, 1) := by decide +kernel
theorem d_X_best_17 : decode b_X_best 17 = .ok (.ifCond .eq 5, 3) := by decide +kernel
theorem d_X_best_20 : decode b_X_best 20 = .ok (.iload_n 2, 1) := by decide +kernel
theorem d_X_best_21 : decode b_X_best 21 = .ok (.ireturn, 1) := by decide +kernel
theorem d_X_best_22 : decode b_X_best 22 = .ok (.aload_n 0, 1) := by decide +kernel
theorem d_X_best_23 : decode b_X_best 23 = .ok (.getfield 11, 3) := by decide +kernel
theorem d_X_best_26 : decode b_X_best 26 = .ok (.iload_n 1, 1) := by decide +kernel
theorem d_X_best_27 : decode b_X_best 27 = .ok (.aaload, 1) := by decide +kernel
theorem d_X_best_28 : decode b_X_best 28 = .ok (.iconst 0, 1) := by decide +kernel
theorem d_X_best_29 : decode b_X_best 29 = .ok (.iconst 0, 1) := by decide +kernel
theorem d_X_best_30 : decode b_X_best 30 = .ok (.invokevirtual 238, 3) := by decide +kernel
theorem d_X_best_33 : decode b_X_best 33 = .ok (.iconst 2, 1) := by decide +kernel
theorem d_X_best_34 : decode b_X_best 34 = .ok (.istore_n 3, 1) := by decide +kernel
theorem d_X_best_35 : decode b_X_best 35 = .ok (.iload_n 3, 1) := by decide +kernel
theorem d_X_best_36 : decode b_X_best 36 = .ok (.bipush 28, 2) := by decide +kernel
theorem d_X_best_38 : decode b_X_best 38 = .ok (.if_icmp .ge 30, 3) := by decide +kernel
theorem d_X_best_41 : decode b_X_best 41 = .ok (.aload_n 0, 1) := by decide +kernel
theorem d_X_best_42 : decode b_X_best 42 = .ok (.getfield 76, 3) := by decide +kernel
theorem d_X_best_45 : decode b_X_best 45 = .ok (.iload_n 3, 1) := by decide +kernel
theorem d_X_best_46 : decode b_X_best 46 = .ok (.invokevirtual 264, 3) := by decide +kernel
theorem d_X_best_49 : decode b_X_best 49 = .ok (.ifCond .eq 13, 3) := by decide +kernel
theorem d_X_best_52 : decode b_X_best 52 = .ok (.aload_n 0, 1) := by decide +kernel
theorem d_X_best_53 : decode b_X_best 53 = .ok (.getfield 11, 3) := by decide +kernel
theorem d_X_best_56 : decode b_X_best 56 = .ok (.iload_n 1, 1) := by decide +kernel
theorem d_X_best_57 : decode b_X_best 57 = .ok (.aaload, 1) := by decide +kernel
theorem d_X_best_58 : decode b_X_best 58 = .ok (.iload_n 3, 1) := by decide +kernel
theorem d_X_best_59 : decode b_X_best 59 = .ok (.invokevirtual 247, 3) := by decide +kernel
theorem d_X_best_62 : decode b_X_best 62 = .ok (.iinc 3 1, 3) := by decide +kernel
theorem d_X_best_65 : decode b_X_best 65 = .ok (.goto (-30), 3) := by decide +kernel
theorem d_X_best_68 : decode b_X_best 68 = .ok (.aload_n 0, 1) := by decide +kernel
theorem d_X_best_69 : decode b_X_best 69 = .ok (.getfield 11, 3) := by decide +kernel
theorem d_X_best_72 : decode b_X_best 72 = .ok (.iload_n 1, 1) := by decide +kernel
theorem d_X_best_73 : decode b_X_best 73 = .ok (.aaload, 1) := by decide +kernel
theorem d_X_best_74 : decode b_X_best 74 = .ok (.getfield 107, 3) := by decide +kernel
theorem d_X_best_77 : decode b_X_best 77 = .ok (.ireturn, 1) := by decide +kernel
theorem d_X_lasts_0 : decode b_X_lasts 0 = .ok (.aload_n 0, 1) := by decide +kernel
theorem d_X_lasts_1 : decode b_X_lasts 1 = .ok (.invokevirtual 261, 3) := by decide +kernel
theorem d_X_lasts_4 : decode b_X_lasts 4 = .ok (.istore_n 1, 1) := by decide +kernel
theorem d_X_lasts_5 : decode b_X_lasts 5 = .ok (.iload_n 1, 1) := by decide +kernel
theorem d_X_lasts_6 : decode b_X_lasts 6 = .ok (.ifCond .eq 5, 3) := by decide +kernel
theorem d_X_lasts_9 : decode b_X_lasts 9 = .ok (.iload_n 1, 1) := by decide +kernel
theorem d_X_lasts_10 : decode b_X_lasts 10 = .ok (.ireturn, 1) := by decide +kernel
theorem d_X_lasts_11 : decode b_X_lasts 11 = .ok (.aload_n 0, 1) := by decide +kernel
theorem d_X_lasts_12 : decode b_X_lasts 12 = .ok (.aload_n 0, 1) := by decide +kernel
theorem d_X_lasts_13 : decode b_X_lasts 13 = .ok (.getfield 76, 3) := by decide +kernel
theorem d_X_lasts_16 : decode b_X_lasts 16 = .ok (.invokevirtual 267, 3) := by decide +kernel
theorem d_X_lasts_19 : decode b_X_lasts 19 = .ok (.putfield 99, 3) := by decide +kernel
theorem d_X_lasts_22 : decode b_X_lasts 22 = .ok (.aload_n 0, 1) := by decide +kernel
theorem d_X_lasts_23 : decode b_X_lasts 23 = .ok (.getfield 76, 3) := by decide +kernel
theorem d_X_lasts_26 : decode b_X_lasts 26 = .ok (.invokevirtual 270, 3) := by decide +kernel
theorem d_X_lasts_29 : decode b_X_lasts 29 = .ok (.ireturn, 1) := by decide +kernel
theorem d_So_shortest_0 : decode b_So_shortest 0 = .ok (.aload_n 0, 1) := by decide +kernel
theorem d_So_shortest_1 : decode b_So_shortest 1 = .ok (.aload_n 0, 1) := by decide +kernel
theorem d_So_shortest_2 : decode b_So_shortest 2 = .ok (.getfield 34, 3) := by decide +kernel
theorem d_So_shortest_5 : decode b_So_shortest 5 = .ok (.iconst 0, 1) := by decide +kernel
theorem d_So_shortest_6 : decode b_So_shortest 6 = .ok (.invokestatic 55, 3) := by decide +kernel
theorem d_So_shortest_9 : decode b_So_shortest 9 = .ok (.iconst 2, 1) := by decide +kernel
theorem d_So_shortest_10 : decode b_So_shortest 10 = .ok (.idiv, 1) := by decide +kernel
theorem d_So_shortest_11 : decode b_So_shortest 11 = .ok (.ireturn, 1) := by decide +kernel
theorem d_So_gapCount_0 : decode b_So_gapCount 0 = .ok (.aload_n 0, 1) := by decide +kernel
theorem d_So_gapCount_1 : decode b_So_gapCount 1 = .ok (.getfield 34, 3) := by decide +kernel
theorem d_So_gapCount_4 : decode b_So_gapCount 4 = .ok (.invokestatic 46, 3) := by decide +kernel
theorem d_So_gapCount_7 : decode b_So_gapCount 7 = .ok (.ireturn, 1) := by decide +kernel
theorem d_X_share_0 : decode b_X_share 0 = .ok (.aload_n 0, 1) := by decide +kernel
theorem d_X_share_1 : decode b_X_share 1 = .ok (.invokevirtual 261, 3) := by decide +kernel
theorem d_X_share_4 : decode b_X_share 4 = .ok (.istore_n 1, 1) := by decide +kernel
theorem d_X_share_5 : decode b_X_share 5 = .ok (.iload_n 1, 1) := by decide +kernel
theorem d_X_share_6 : decode b_X_share 6 = .ok (.ifCond .eq 5, 3) := by decide +kernel
theorem d_X_share_9 : decode b_X_share 9 = .ok (.iload_n 1, 1) := by decide +kernel
theorem d_X_share_10 : decode b_X_share 10 = .ok (.ireturn, 1) := by decide +kernel
theorem d_X_share_11 : decode b_X_share 11 = .ok (.aload_n 0, 1) := by decide +kernel
theorem d_X_share_12 : decode b_X_share 12 = .ok (.getfield 76, 3) := by decide +kernel
theorem d_X_share_15 : decode b_X_share 15 = .ok (.invokevirtual 181, 3) := by decide +kernel
theorem d_X_share_18 : decode b_X_share 18 = .ok (.istore_n 2, 1) := by decide +kernel
theorem d_X_share_19 : decode b_X_share 19 = .ok (.aload_n 0, 1) := by decide +kernel
theorem d_X_share_20 : decode b_X_share 20 = .ok (.iload_n 2, 1) := by decide +kernel
theorem d_X_share_21 : decode b_X_share 21 = .ok (.i2l, 1) := by decide +kernel
theorem d_X_share_22 : decode b_X_share 22 = .ok (.aload_n 0, 1) := by decide +kernel
theorem d_X_share_23 : decode b_X_share 23 = .ok (.getfield 76, 3) := by decide +kernel
theorem d_X_share_26 : decode b_X_share 26 = .ok (.invokevirtual 270, 3) := by decide +kernel
theorem d_X_share_29 : decode b_X_share 29 = .ok (.i2l, 1) := by decide +kernel
theorem d_X_share_30 : decode b_X_share 30 = .ok (.invokevirtual 225, 3) := by decide +kernel
theorem d_X_share_33 : decode b_X_share 33 = .ok (.iload_n 2, 1) := by decide +kernel
theorem d_X_share_34 : decode b_X_share 34 = .ok (.ireturn, 1) := by decide +kernel
theorem d_X_says_0 : decode b_X_says 0 = .ok (.iload_n 1, 1) := by decide +kernel
theorem d_X_says_1 : decode b_X_says 1 = .ok (.aload_n 0, 1) := by decide +kernel
theorem d_X_says_2 : decode b_X_says 2 = .ok (.getfield 145, 3) := by decide +kernel
theorem d_X_says_5 : decode b_X_says 5 = .ok (.invokestatic 110, 3) := by decide +kernel
theorem d_X_says_8 : decode b_X_says 8 = .ok (.ifCond .ne 5, 3) := by decide +kernel
theorem d_X_says_11 : decode b_X_says 11 = .ok (.iconst (-1), 1) := by decide +kernel
theorem d_X_says_12 : decode b_X_says 12 = .ok (.ireturn, 1) := by decide +kernel
theorem d_X_says_13 : decode b_X_says 13 = .ok (.aload_n 0, 1) := by decide +kernel
theorem d_X_says_14 : decode b_X_says 14 = .ok (.getfield 21, 3) := by decide +kernel
theorem d_X_says_17 : decode b_X_says 17 = .ok (.invokevirtual 159, 3) := by decide +kernel
theorem d_X_says_20 : decode b_X_says 20 = .ok (.ifCond .eq 6, 3) := by decide +kernel
theorem d_X_says_23 : decode b_X_says 23 = .ok (.bipush (-4), 2) := by decide +kernel
theorem d_X_says_25 : decode b_X_says 25 = .ok (.ireturn, 1) := by decide +kernel
theorem d_X_says_26 : decode b_X_says 26 = .ok (.aload_n 0, 1) := by decide +kernel
theorem d_X_says_27 : decode b_X_says 27 = .ok (.iload_n 1, 1) := by decide +kernel
theorem d_X_says_28 : decode b_X_says 28 = .ok (.invokevirtual 151, 3) := by decide +kernel
theorem d_X_says_31 : decode b_X_says 31 = .ok (.aload_n 0, 1) := by decide +kernel
theorem d_X_says_32 : decode b_X_says 32 = .ok (.getfield 21, 3) := by decide +kernel
theorem d_X_says_35 : decode b_X_says 35 = .ok (.aload_n 0, 1) := by decide +kernel
theorem d_X_says_36 : decode b_X_says 36 = .ok (.getfield 76, 3) := by decide +kernel
theorem d_X_says_39 : decode b_X_says 39 = .ok (.iconst 0, 1) := by decide +kernel
theorem d_X_says_40 : decode b_X_says 40 = .ok (.invokevirtual 162, 3) := by decide +kernel
theorem d_X_says_43 : decode b_X_says 43 = .ok (.ireturn, 1) := by decide +kernel
theorem d_X_play_0 : decode b_X_play 0 = .ok (.iload_n 1, 1) := by decide +kernel
theorem d_X_play_1 : decode b_X_play 1 = .ok (.ifCond .lt 23, 3) := by decide +kernel
theorem d_X_play_4 : decode b_X_play 4 = .ok (.iload_n 1, 1) := by decide +kernel
theorem d_X_play_5 : decode b_X_play 5 = .ok (.bipush 12, 2) := by decide +kernel
theorem d_X_play_7 : decode b_X_play 7 = .ok (.if_icmp .gt 17, 3) := by decide +kernel
theorem d_X_play_10 : decode b_X_play 10 = .ok (.iload_n 2, 1) := by decide +kernel
theorem d_X_play_11 : decode b_X_play 11 = .ok (.iconst 1, 1) := by decide +kernel
theorem d_X_play_12 : decode b_X_play 12 = .ok (.if_icmp .lt 12, 3) := by decide +kernel
theorem d_X_play_15 : decode b_X_play 15 = .ok (.iload_n 2, 1) := by decide +kernel
theorem d_X_play_16 : decode b_X_play 16 = .ok (.i2l, 1) := by decide +kernel
theorem d_X_play_17 : decode b_X_play 17 = .ok (.ldc2_w 271, 3) := by decide +kernel
theorem d_X_play_20 : decode b_X_play 20 = .ok (.lcmp, 1) := by decide +kernel
theorem d_X_play_21 : decode b_X_play 21 = .ok (.ifCond .lt 5, 3) := by decide +kernel
theorem d_X_play_24 : decode b_X_play 24 = .ok (.iconst (-1), 1) := by decide +kernel
theorem d_X_play_25 : decode b_X_play 25 = .ok (.ireturn, 1) := by decide +kernel
theorem d_X_play_26 : decode b_X_play 26 = .ok (.aload_n 0, 1) := by decide +kernel
theorem d_X_play_27 : decode b_X_play 27 = .ok (.getfield 145, 3) := by decide +kernel
theorem d_X_play_30 : decode b_X_play 30 = .ok (.iconst 2, 1) := by decide +kernel
theorem d_X_play_31 : decode b_X_play 31 = .ok (.if_icmp .ge 6, 3) := by decide +kernel
theorem d_X_play_34 : decode b_X_play 34 = .ok (.bipush (-4), 2) := by decide +kernel
theorem d_X_play_36 : decode b_X_play 36 = .ok (.ireturn, 1) := by decide +kernel
theorem d_X_play_37 : decode b_X_play 37 = .ok (.iload_n 2, 1) := by decide +kernel
theorem d_X_play_38 : decode b_X_play 38 = .ok (.istore_n 3, 1) := by decide +kernel
theorem d_X_play_39 : decode b_X_play 39 = .ok (.iconst 0, 1) := by decide +kernel
theorem d_X_play_40 : decode b_X_play 40 = .ok (.istore 4, 2) := by decide +kernel
theorem d_X_play_42 : decode b_X_play 42 = .ok (.iload 4, 2) := by decide +kernel
theorem d_X_play_44 : decode b_X_play 44 = .ok (.iload_n 1, 1) := by decide +kernel
theorem d_X_play_45 : decode b_X_play 45 = .ok (.if_icmp .ge 87, 3) := by decide +kernel
theorem d_X_play_48 : decode b_X_play 48 = .ok (.aload_n 0, 1) := by decide +kernel
theorem d_X_play_49 : decode b_X_play 49 = .ok (.getfield 21, 3) := by decide +kernel
theorem d_X_play_52 : decode b_X_play 52 = .ok (.getfield 147, 3) := by decide +kernel
theorem d_X_play_55 : decode b_X_play 55 = .ok (.bipush 12, 2) := by decide +kernel
theorem d_X_play_57 : decode b_X_play 57 = .ok (.if_icmp .ge 75, 3) := by decide +kernel
theorem d_X_play_60 : decode b_X_play 60 = .ok (.aload_n 0, 1) := by decide +kernel
theorem d_X_play_61 : decode b_X_play 61 = .ok (.getfield 21, 3) := by decide +kernel
theorem d_X_play_64 : decode b_X_play 64 = .ok (.invokevirtual 159, 3) := by decide +kernel
theorem d_X_play_67 : decode b_X_play 67 = .ok (.ifCond .ne 65, 3) := by decide +kernel
theorem d_X_play_70 : decode b_X_play 70 = .ok (.aload_n 0, 1) := by decide +kernel
theorem d_X_play_71 : decode b_X_play 71 = .ok (.aload_n 0, 1) := by decide +kernel
theorem d_X_play_72 : decode b_X_play 72 = .ok (.getfield 21, 3) := by decide +kernel
theorem d_X_play_75 : decode b_X_play 75 = .ok (.getfield 147, 3) := by decide +kernel
theorem d_X_play_78 : decode b_X_play 78 = .ok (.iconst 2, 1) := by decide +kernel
theorem d_X_play_79 : decode b_X_play 79 = .ok (.irem, 1) := by decide +kernel
theorem d_X_play_80 : decode b_X_play 80 = .ok (.invokevirtual 151, 3) := by decide +kernel
theorem d_X_play_83 : decode b_X_play 83 = .ok (.astore 5, 2) := by decide +kernel
theorem d_X_play_85 : decode b_X_play 85 = .ok (.aload 5, 2) := by decide +kernel
theorem d_X_play_87 : decode b_X_play 87 = .ok (.instanceof 48, 3) := by decide +kernel
theorem d_X_play_90 : decode b_X_play 90 = .ok (.ifCond .eq 15, 3) := by decide +kernel
theorem d_X_play_93 : decode b_X_play 93 = .ok (.iload_n 3, 1) := by decide +kernel
theorem d_X_play_94 : decode b_X_play 94 = .ok (.i2l, 1) := by decide +kernel
theorem d_X_play_95 : decode b_X_play 95 = .ok (.ldc2_w 273, 3) := by decide +kernel
theorem d_X_play_98 : decode b_X_play 98 = .ok (.lmul, 1) := by decide +kernel
theorem d_X_play_99 : decode b_X_play 99 = .ok (.ldc2_w 271, 3) := by decide +kernel
theorem d_X_play_102 : decode b_X_play 102 = .ok (.lrem, 1) := by decide +kernel
theorem d_X_play_103 : decode b_X_play 103 = .ok (.l2i, 1) := by decide +kernel
theorem d_X_play_104 : decode b_X_play 104 = .ok (.istore_n 3, 1) := by decide +kernel
theorem d_X_play_105 : decode b_X_play 105 = .ok (.aload_n 0, 1) := by decide +kernel
theorem d_X_play_106 : decode b_X_play 106 = .ok (.getfield 21, 3) := by decide +kernel
theorem d_X_play_109 : decode b_X_play 109 = .ok (.aload 5, 2) := by decide +kernel
theorem d_X_play_111 : decode b_X_play 111 = .ok (.aload_n 0, 1) := by decide +kernel
theorem d_X_play_112 : decode b_X_play 112 = .ok (.getfield 21, 3) := by decide +kernel
theorem d_X_play_115 : decode b_X_play 115 = .ok (.aload_n 0, 1) := by decide +kernel
theorem d_X_play_116 : decode b_X_play 116 = .ok (.getfield 76, 3) := by decide +kernel
theorem d_X_play_119 : decode b_X_play 119 = .ok (.iload_n 3, 1) := by decide +kernel
theorem d_X_play_120 : decode b_X_play 120 = .ok (.invokevirtual 162, 3) := by decide +kernel
theorem d_X_play_123 : decode b_X_play 123 = .ok (.invokevirtual 200, 3) := by decide +kernel
theorem d_X_play_126 : decode b_X_play 126 = .ok (.iinc 4 1, 3) := by decide +kernel
theorem d_X_play_129 : decode b_X_play 129 = .ok (.goto (-87), 3) := by decide +kernel
theorem d_X_play_132 : decode b_X_play 132 = .ok (.iload 4, 2) := by decide +kernel
theorem d_X_play_134 : decode b_X_play 134 = .ok (.ireturn, 1) := by decide +kernel
theorem d_X_list_0 : decode b_X_list 0 = .ok (.aload_n 0, 1) := by decide +kernel
theorem d_X_list_1 : decode b_X_list 1 = .ok (.aload_n 0, 1) := by decide +kernel
theorem d_X_list_2 : decode b_X_list 2 = .ok (.getfield 11, 3) := by decide +kernel
theorem d_X_list_5 : decode b_X_list 5 = .ok (.iload_n 1, 1) := by decide +kernel
theorem d_X_list_6 : decode b_X_list 6 = .ok (.invokevirtual 103, 3) := by decide +kernel
theorem d_X_list_9 : decode b_X_list 9 = .ok (.istore_n 2, 1) := by decide +kernel
theorem d_X_list_10 : decode b_X_list 10 = .ok (.iload_n 2, 1) := by decide +kernel
theorem d_X_list_11 : decode b_X_list 11 = .ok (.ifCond .eq 5, 3) := by decide +kernel
theorem d_X_list_14 : decode b_X_list 14 = .ok (.iload_n 2, 1) := by decide +kernel
theorem d_X_list_15 : decode b_X_list 15 = .ok (.ireturn, 1) := by decide +kernel
theorem d_X_list_16 : decode b_X_list 16 = .ok (.aload_n 0, 1) := by decide +kernel
theorem d_X_list_17 : decode b_X_list 17 = .ok (.getfield 11, 3) := by decide +kernel
theorem d_X_list_20 : decode b_X_list 20 = .ok (.iload_n 1, 1) := by decide +kernel
theorem d_X_list_21 : decode b_X_list 21 = .ok (.aaload, 1) := by decide +kernel
theorem d_X_list_22 : decode b_X_list 22 = .ok (.invokevirtual 275, 3) := by decide +kernel
theorem d_X_list_25 : decode b_X_list 25 = .ok (.lstore_n 3, 1) := by decide +kernel
theorem d_X_list_26 : decode b_X_list 26 = .ok (.lload_n 3, 1) := by decide +kernel
theorem d_X_list_27 : decode b_X_list 27 = .ok (.lconst 0, 1) := by decide +kernel
theorem d_X_list_28 : decode b_X_list 28 = .ok (.lcmp, 1) := by decide +kernel
theorem d_X_list_29 : decode b_X_list 29 = .ok (.ifCond .ge 9, 3) := by decide +kernel
theorem d_X_list_32 : decode b_X_list 32 = .ok (.aload_n 0, 1) := by decide +kernel
theorem d_X_list_33 : decode b_X_list 33 = .ok (.iconst 3, 1) := by decide +kernel
theorem d_X_list_34 : decode b_X_list 34 = .ok (.invokevirtual 114, 3) := by decide +kernel
theorem d_X_list_37 : decode b_X_list 37 = .ok (.ireturn, 1) := by decide +kernel
theorem d_X_list_38 : decode b_X_list 38 = .ok (.aload_n 0, 1) := by decide +kernel
theorem d_X_list_39 : decode b_X_list 39 = .ok (.lload_n 3, 1) := by decide +kernel
theorem d_X_list_40 : decode b_X_list 40 = .ok (.invokestatic 278, 3) := by decide +kernel
theorem d_X_list_43 : decode b_X_list 43 = .ok (.putfield 99, 3) := by decide +kernel
theorem d_X_list_46 : decode b_X_list 46 = .ok (.aload_n 0, 1) := by decide +kernel
theorem d_X_list_47 : decode b_X_list 47 = .ok (.getfield 99, 3) := by decide +kernel
theorem d_X_list_50 : decode b_X_list 50 = .ok (.ifCond .ne 7, 3) := by decide +kernel
theorem d_X_list_53 : decode b_X_list 53 = .ok (.iconst 1, 1) := by decide +kernel
theorem d_X_list_54 : decode b_X_list 54 = .ok (.goto 4, 3) := by decide +kernel
theorem d_X_list_57 : decode b_X_list 57 = .ok (.iconst 0, 1) := by decide +kernel
theorem d_X_list_58 : decode b_X_list 58 = .ok (.ireturn, 1) := by decide +kernel
theorem d_Rw_asBits_0 : decode b_Rw_asBits 0 = .ok (.lconst 0, 1) := by decide +kernel
theorem d_Rw_asBits_1 : decode b_Rw_asBits 1 = .ok (.lstore_n 1, 1) := by decide +kernel
theorem d_Rw_asBits_2 : decode b_Rw_asBits 2 = .ok (.iconst 0, 1) := by decide +kernel
theorem d_Rw_asBits_3 : decode b_Rw_asBits 3 = .ok (.istore_n 3, 1) := by decide +kernel
theorem d_Rw_asBits_4 : decode b_Rw_asBits 4 = .ok (.iload_n 3, 1) := by decide +kernel
theorem d_Rw_asBits_5 : decode b_Rw_asBits 5 = .ok (.aload_n 0, 1) := by decide +kernel
theorem d_Rw_asBits_6 : decode b_Rw_asBits 6 = .ok (.getfield 15, 3) := by decide +kernel
theorem d_Rw_asBits_9 : decode b_Rw_asBits 9 = .ok (.if_icmp .ge 52, 3) := by decide +kernel
theorem d_Rw_asBits_12 : decode b_Rw_asBits 12 = .ok (.aload_n 0, 1) := by decide +kernel
theorem d_Rw_asBits_13 : decode b_Rw_asBits 13 = .ok (.getfield 9, 3) := by decide +kernel
theorem d_Rw_asBits_16 : decode b_Rw_asBits 16 = .ok (.iload_n 3, 1) := by decide +kernel
theorem d_Rw_asBits_17 : decode b_Rw_asBits 17 = .ok (.iaload, 1) := by decide +kernel
theorem d_Rw_asBits_18 : decode b_Rw_asBits 18 = .ok (.istore 4, 2) := by decide +kernel
theorem d_Rw_asBits_20 : decode b_Rw_asBits 20 = .ok (.iload 4, 2) := by decide +kernel
theorem d_Rw_asBits_22 : decode b_Rw_asBits 22 = .ok (.iconst 1, 1) := by decide +kernel
theorem d_Rw_asBits_23 : decode b_Rw_asBits 23 = .ok (.if_icmp .lt 21, 3) := by decide +kernel
theorem d_Rw_asBits_26 : decode b_Rw_asBits 26 = .ok (.iload 4, 2) := by decide +kernel
theorem d_Rw_asBits_28 : decode b_Rw_asBits 28 = .ok (.bipush 60, 2) := by decide +kernel
theorem d_Rw_asBits_30 : decode b_Rw_asBits 30 = .ok (.if_icmp .gt 14, 3) := by decide +kernel
theorem d_Rw_asBits_33 : decode b_Rw_asBits 33 = .ok (.lload_n 1, 1) := by decide +kernel
theorem d_Rw_asBits_34 : decode b_Rw_asBits 34 = .ok (.iload 4, 2) := by decide +kernel
theorem d_Rw_asBits_36 : decode b_Rw_asBits 36 = .ok (.lshr, 1) := by decide +kernel
theorem d_Rw_asBits_37 : decode b_Rw_asBits 37 = .ok (.lconst 1, 1) := by decide +kernel
theorem d_Rw_asBits_38 : decode b_Rw_asBits 38 = .ok (.land, 1) := by decide +kernel
theorem d_Rw_asBits_39 : decode b_Rw_asBits 39 = .ok (.lconst 1, 1) := by decide +kernel
theorem d_Rw_asBits_40 : decode b_Rw_asBits 40 = .ok (.lcmp, 1) := by decide +kernel
theorem d_Rw_asBits_41 : decode b_Rw_asBits 41 = .ok (.ifCond .ne 7, 3) := by decide +kernel
theorem d_Rw_asBits_44 : decode b_Rw_asBits 44 = .ok (.ldc2_w 29, 3) := by decide +kernel
theorem d_Rw_asBits_47 : decode b_Rw_asBits 47 = .ok (.lreturn, 1) := by decide +kernel
theorem d_Rw_asBits_48 : decode b_Rw_asBits 48 = .ok (.lload_n 1, 1) := by decide +kernel
theorem d_Rw_asBits_49 : decode b_Rw_asBits 49 = .ok (.lconst 1, 1) := by decide +kernel
theorem d_Rw_asBits_50 : decode b_Rw_asBits 50 = .ok (.iload 4, 2) := by decide +kernel
theorem d_Rw_asBits_52 : decode b_Rw_asBits 52 = .ok (.lshl, 1) := by decide +kernel
theorem d_Rw_asBits_53 : decode b_Rw_asBits 53 = .ok (.lor, 1) := by decide +kernel
theorem d_Rw_asBits_54 : decode b_Rw_asBits 54 = .ok (.lstore_n 1, 1) := by decide +kernel
theorem d_Rw_asBits_55 : decode b_Rw_asBits 55 = .ok (.iinc 3 1, 3) := by decide +kernel
theorem d_Rw_asBits_58 : decode b_Rw_asBits 58 = .ok (.goto (-54), 3) := by decide +kernel
theorem d_Rw_asBits_61 : decode b_Rw_asBits 61 = .ok (.lload_n 1, 1) := by decide +kernel
theorem d_Rw_asBits_62 : decode b_Rw_asBits 62 = .ok (.lreturn, 1) := by decide +kernel
theorem d_X_leastPaid_0 : decode b_X_leastPaid 0 = .ok (.iconst 1, 1) := by decide +kernel
theorem d_X_leastPaid_1 : decode b_X_leastPaid 1 = .ok (.istore_n 2, 1) := by decide +kernel
theorem d_X_leastPaid_2 : decode b_X_leastPaid 2 = .ok (.iload_n 2, 1) := by decide +kernel
theorem d_X_leastPaid_3 : decode b_X_leastPaid 3 = .ok (.bipush 60, 2) := by decide +kernel
theorem d_X_leastPaid_5 : decode b_X_leastPaid 5 = .ok (.if_icmp .gt 27, 3) := by decide +kernel
theorem d_X_leastPaid_8 : decode b_X_leastPaid 8 = .ok (.lload_n 0, 1) := by decide +kernel
theorem d_X_leastPaid_9 : decode b_X_leastPaid 9 = .ok (.iload_n 2, 1) := by decide +kernel
theorem d_X_leastPaid_10 : decode b_X_leastPaid 10 = .ok (.invokestatic 323, 3) := by decide +kernel
theorem d_X_leastPaid_13 : decode b_X_leastPaid 13 = .ok (.ifCond .eq 13, 3) := by decide +kernel
theorem d_X_leastPaid_16 : decode b_X_leastPaid 16 = .ok (.lload_n 0, 1) := by decide +kernel
theorem d_X_leastPaid_17 : decode b_X_leastPaid 17 = .ok (.iload_n 2, 1) := by decide +kernel
theorem d_X_leastPaid_18 : decode b_X_leastPaid 18 = .ok (.invokestatic 326, 3) := by decide +kernel
theorem d_X_leastPaid_21 : decode b_X_leastPaid 21 = .ok (.ifCond .eq 5, 3) := by decide +kernel
theorem d_X_leastPaid_24 : decode b_X_leastPaid 24 = .ok (.iload_n 2, 1) := by decide +kernel
theorem d_X_leastPaid_25 : decode b_X_leastPaid 25 = .ok (.ireturn, 1) := by decide +kernel
theorem d_X_leastPaid_26 : decode b_X_leastPaid 26 = .ok (.iinc 2 1, 3) := by decide +kernel
theorem d_X_leastPaid_29 : decode b_X_leastPaid 29 = .ok (.goto (-27), 3) := by decide +kernel
theorem d_X_leastPaid_32 : decode b_X_leastPaid 32 = .ok (.iconst 0, 1) := by decide +kernel
theorem d_X_leastPaid_33 : decode b_X_leastPaid 33 = .ok (.ireturn, 1) := by decide +kernel
theorem d_X_isGap_0 : decode b_X_isGap 0 = .ok (.iload_n 2, 1) := by decide +kernel
theorem d_X_isGap_1 : decode b_X_isGap 1 = .ok (.bipush 60, 2) := by decide +kernel
theorem d_X_isGap_3 : decode b_X_isGap 3 = .ok (.if_icmp .gt 17, 3) := by decide +kernel
theorem d_X_isGap_6 : decode b_X_isGap 6 = .ok (.lload_n 0, 1) := by decide +kernel
theorem d_X_isGap_7 : decode b_X_isGap 7 = .ok (.iload_n 2, 1) := by decide +kernel
theorem d_X_isGap_8 : decode b_X_isGap 8 = .ok (.lshr, 1) := by decide +kernel
theorem d_X_isGap_9 : decode b_X_isGap 9 = .ok (.lconst 1, 1) := by decide +kernel
theorem d_X_isGap_10 : decode b_X_isGap 10 = .ok (.land, 1) := by decide +kernel
theorem d_X_isGap_11 : decode b_X_isGap 11 = .ok (.lconst 1, 1) := by decide +kernel
theorem d_X_isGap_12 : decode b_X_isGap 12 = .ok (.lcmp, 1) := by decide +kernel
theorem d_X_isGap_13 : decode b_X_isGap 13 = .ok (.ifCond .ne 7, 3) := by decide +kernel
theorem d_X_isGap_16 : decode b_X_isGap 16 = .ok (.iconst 1, 1) := by decide +kernel
theorem d_X_isGap_17 : decode b_X_isGap 17 = .ok (.goto 4, 3) := by decide +kernel
theorem d_X_isGap_20 : decode b_X_isGap 20 = .ok (.iconst 0, 1) := by decide +kernel
theorem d_X_isGap_21 : decode b_X_isGap 21 = .ok (.ireturn, 1) := by decide +kernel
theorem d_X_isPaid_0 : decode b_X_isPaid 0 = .ok (.iconst 1, 1) := by decide +kernel
theorem d_X_isPaid_1 : decode b_X_isPaid 1 = .ok (.istore_n 3, 1) := by decide +kernel
theorem d_X_isPaid_2 : decode b_X_isPaid 2 = .ok (.iload_n 3, 1) := by decide +kernel
theorem d_X_isPaid_3 : decode b_X_isPaid 3 = .ok (.iload_n 2, 1) := by decide +kernel
theorem d_X_isPaid_4 : decode b_X_isPaid 4 = .ok (.iconst 2, 1) := by decide +kernel
theorem d_X_isPaid_5 : decode b_X_isPaid 5 = .ok (.idiv, 1) := by decide +kernel
theorem d_X_isPaid_6 : decode b_X_isPaid 6 = .ok (.if_icmp .gt 29, 3) := by decide +kernel
theorem d_X_isPaid_9 : decode b_X_isPaid 9 = .ok (.lload_n 0, 1) := by decide +kernel
theorem d_X_isPaid_10 : decode b_X_isPaid 10 = .ok (.iload_n 3, 1) := by decide +kernel
theorem d_X_isPaid_11 : decode b_X_isPaid 11 = .ok (.invokestatic 323, 3) := by decide +kernel
theorem d_X_isPaid_14 : decode b_X_isPaid 14 = .ok (.ifCond .ne 15, 3) := by decide +kernel
theorem d_X_isPaid_17 : decode b_X_isPaid 17 = .ok (.lload_n 0, 1) := by decide +kernel
theorem d_X_isPaid_18 : decode b_X_isPaid 18 = .ok (.iload_n 2, 1) := by decide +kernel
theorem d_X_isPaid_19 : decode b_X_isPaid 19 = .ok (.iload_n 3, 1) := by decide +kernel
theorem d_X_isPaid_20 : decode b_X_isPaid 20 = .ok (.isub, 1) := by decide +kernel
theorem d_X_isPaid_21 : decode b_X_isPaid 21 = .ok (.invokestatic 323, 3) := by decide +kernel
theorem d_X_isPaid_24 : decode b_X_isPaid 24 = .ok (.ifCond .ne 5, 3) := by decide +kernel
theorem d_X_isPaid_27 : decode b_X_isPaid 27 = .ok (.iconst 1, 1) := by decide +kernel
theorem d_X_isPaid_28 : decode b_X_isPaid 28 = .ok (.ireturn, 1) := by decide +kernel
theorem d_X_isPaid_29 : decode b_X_isPaid 29 = .ok (.iinc 3 1, 3) := by decide +kernel
theorem d_X_isPaid_32 : decode b_X_isPaid 32 = .ok (.goto (-30), 3) := by decide +kernel
theorem d_X_isPaid_35 : decode b_X_isPaid 35 = .ok (.iconst 0, 1) := by decide +kernel
theorem d_X_isPaid_36 : decode b_X_isPaid 36 = .ok (.ireturn, 1) := by decide +kernel
theorem d_X_makes_0 : decode b_X_makes 0 = .ok (.iload_n 2, 1) := by decide +kernel
theorem d_X_makes_1 : decode b_X_makes 1 = .ok (.bipush 6, 2) := by decide +kernel
theorem d_X_makes_3 : decode b_X_makes 3 = .ok (.invokestatic 110, 3) := by decide +kernel
theorem d_X_makes_6 : decode b_X_makes 6 = .ok (.ifCond .ne 5, 3) := by decide +kernel
theorem d_X_makes_9 : decode b_X_makes 9 = .ok (.iconst (-1), 1) := by decide +kernel
theorem d_X_makes_10 : decode b_X_makes 10 = .ok (.ireturn, 1) := by decide +kernel
theorem d_X_makes_11 : decode b_X_makes 11 = .ok (.aload_n 0, 1) := by decide +kernel
theorem d_X_makes_12 : decode b_X_makes 12 = .ok (.aload_n 0, 1) := by decide +kernel
theorem d_X_makes_13 : decode b_X_makes 13 = .ok (.getfield 11, 3) := by decide +kernel
theorem d_X_makes_16 : decode b_X_makes 16 = .ok (.iload_n 1, 1) := by decide +kernel
theorem d_X_makes_17 : decode b_X_makes 17 = .ok (.invokevirtual 103, 3) := by decide +kernel
theorem d_X_makes_20 : decode b_X_makes 20 = .ok (.istore_n 3, 1) := by decide +kernel
theorem d_X_makes_21 : decode b_X_makes 21 = .ok (.iload_n 3, 1) := by decide +kernel
theorem d_X_makes_22 : decode b_X_makes 22 = .ok (.ifCond .eq 5, 3) := by decide +kernel
theorem d_X_makes_25 : decode b_X_makes 25 = .ok (.iload_n 3, 1) := by decide +kernel
theorem d_X_makes_26 : decode b_X_makes 26 = .ok (.ireturn, 1) := by decide +kernel
theorem d_X_makes_27 : decode b_X_makes 27 = .ok (.aload_n 0, 1) := by decide +kernel
theorem d_X_makes_28 : decode b_X_makes 28 = .ok (.getfield 11, 3) := by decide +kernel
theorem d_X_makes_31 : decode b_X_makes 31 = .ok (.iload_n 1, 1) := by decide +kernel
theorem d_X_makes_32 : decode b_X_makes 32 = .ok (.aaload, 1) := by decide +kernel
theorem d_X_makes_33 : decode b_X_makes 33 = .ok (.invokevirtual 275, 3) := by decide +kernel
theorem d_X_makes_36 : decode b_X_makes 36 = .ok (.lstore 4, 2) := by decide +kernel
theorem d_X_makes_38 : decode b_X_makes 38 = .ok (.lload 4, 2) := by decide +kernel
theorem d_X_makes_40 : decode b_X_makes 40 = .ok (.lconst 0, 1) := by decide +kernel
theorem d_X_makes_41 : decode b_X_makes 41 = .ok (.lcmp, 1) := by decide +kernel
theorem d_X_makes_42 : decode b_X_makes 42 = .ok (.ifCond .lt 11, 3) := by decide +kernel
theorem d_X_makes_45 : decode b_X_makes 45 = .ok (.lload 4, 2) := by decide +kernel
theorem d_X_makes_47 : decode b_X_makes 47 = .ok (.invokestatic 278, 3) := by decide +kernel
theorem d_X_makes_50 : decode b_X_makes 50 = .ok (.ifCond .eq 9, 3) := by decide +kernel
theorem d_X_makes_53 : decode b_X_makes 53 = .ok (.aload_n 0, 1) := by decide +kernel
theorem d_X_makes_54 : decode b_X_makes 54 = .ok (.iconst 3, 1) := by decide +kernel
theorem d_X_makes_55 : decode b_X_makes 55 = .ok (.invokevirtual 114, 3) := by decide +kernel
theorem d_X_makes_58 : decode b_X_makes 58 = .ok (.ireturn, 1) := by decide +kernel
theorem d_X_makes_59 : decode b_X_makes 59 = .ok (.aload_n 0, 1) := by decide +kernel
theorem d_X_makes_60 : decode b_X_makes 60 = .ok (.getfield 11, 3) := by decide +kernel
theorem d_X_makes_63 : decode b_X_makes 63 = .ok (.iload_n 2, 1) := by decide +kernel
theorem d_X_makes_64 : decode b_X_makes 64 = .ok (.aaload, 1) := by decide +kernel
theorem d_X_makes_65 : decode b_X_makes 65 = .ok (.iconst 0, 1) := by decide +kernel
theorem d_X_makes_66 : decode b_X_makes 66 = .ok (.iconst 0, 1) := by decide +kernel
theorem d_X_makes_67 : decode b_X_makes 67 = .ok (.invokevirtual 238, 3) := by decide +kernel
theorem d_X_makes_70 : decode b_X_makes 70 = .ok (.iconst 0, 1) := by decide +kernel
theorem d_X_makes_71 : decode b_X_makes 71 = .ok (.istore 6, 2) := by decide +kernel
theorem d_X_makes_73 : decode b_X_makes 73 = .ok (.iconst 1, 1) := by decide +kernel
theorem d_X_makes_74 : decode b_X_makes 74 = .ok (.istore 7, 2) := by decide +kernel
theorem d_X_makes_76 : decode b_X_makes 76 = .ok (.iload 7, 2) := by decide +kernel
theorem d_X_makes_78 : decode b_X_makes 78 = .ok (.bipush 121, 2) := by decide +kernel
theorem d_X_makes_80 : decode b_X_makes 80 = .ok (.if_icmp .gt 33, 3) := by decide +kernel
theorem d_X_makes_83 : decode b_X_makes 83 = .ok (.lload 4, 2) := by decide +kernel
theorem d_X_makes_85 : decode b_X_makes 85 = .ok (.iload 7, 2) := by decide +kernel
theorem d_X_makes_87 : decode b_X_makes 87 = .ok (.invokestatic 281, 3) := by decide +kernel
theorem d_X_makes_90 : decode b_X_makes 90 = .ok (.ifCond .eq 17, 3) := by decide +kernel
theorem d_X_makes_93 : decode b_X_makes 93 = .ok (.aload_n 0, 1) := by decide +kernel
theorem d_X_makes_94 : decode b_X_makes 94 = .ok (.getfield 11, 3) := by decide +kernel
theorem d_X_makes_97 : decode b_X_makes 97 = .ok (.iload_n 2, 1) := by decide +kernel
theorem d_X_makes_98 : decode b_X_makes 98 = .ok (.aaload, 1) := by decide +kernel
theorem d_X_makes_99 : decode b_X_makes 99 = .ok (.iload 7, 2) := by decide +kernel
theorem d_X_makes_101 : decode b_X_makes 101 = .ok (.invokevirtual 247, 3) := by decide +kernel
theorem d_X_makes_104 : decode b_X_makes 104 = .ok (.iinc 6 1, 3) := by decide +kernel
theorem d_X_makes_107 : decode b_X_makes 107 = .ok (.iinc 7 1, 3) := by decide +kernel
theorem d_X_makes_110 : decode b_X_makes 110 = .ok (.goto (-34), 3) := by decide +kernel
theorem d_X_makes_113 : decode b_X_makes 113 = .ok (.iload 6, 2) := by decide +kernel
theorem d_X_makes_115 : decode b_X_makes 115 = .ok (.ireturn, 1) := by decide +kernel
theorem d_X_isMaker_0 : decode b_X_isMaker 0 = .ok (.lload_n 0, 1) := by decide +kernel
theorem d_X_isMaker_1 : decode b_X_isMaker 1 = .ok (.iload_n 2, 1) := by decide +kernel
theorem d_X_isMaker_2 : decode b_X_isMaker 2 = .ok (.invokestatic 323, 3) := by decide +kernel
theorem d_X_isMaker_5 : decode b_X_isMaker 5 = .ok (.ifCond .ne 15, 3) := by decide +kernel
theorem d_X_isMaker_8 : decode b_X_isMaker 8 = .ok (.lload_n 0, 1) := by decide +kernel
theorem d_X_isMaker_9 : decode b_X_isMaker 9 = .ok (.iload_n 2, 1) := by decide +kernel
theorem d_X_isMaker_10 : decode b_X_isMaker 10 = .ok (.invokestatic 326, 3) := by decide +kernel
theorem d_X_isMaker_13 : decode b_X_isMaker 13 = .ok (.ifCond .ne 7, 3) := by decide +kernel
theorem d_X_isMaker_16 : decode b_X_isMaker 16 = .ok (.iconst 1, 1) := by decide +kernel
theorem d_X_isMaker_17 : decode b_X_isMaker 17 = .ok (.goto 4, 3) := by decide +kernel
theorem d_X_isMaker_20 : decode b_X_isMaker 20 = .ok (.iconst 0, 1) := by decide +kernel
theorem d_X_isMaker_21 : decode b_X_isMaker 21 = .ok (.ireturn, 1) := by decide +kernel
theorem d_X_tree_0 : decode b_X_tree 0 = .ok (.iload_n 1, 1) := by decide +kernel
theorem d_X_tree_1 : decode b_X_tree 1 = .ok (.ifCond .lt 19, 3) := by decide +kernel
theorem d_X_tree_4 : decode b_X_tree 4 = .ok (.iload_n 1, 1) := by decide +kernel
theorem d_X_tree_5 : decode b_X_tree 5 = .ok (.bipush 9, 2) := by decide +kernel
theorem d_X_tree_7 : decode b_X_tree 7 = .ok (.if_icmp .gt 13, 3) := by decide +kernel
theorem d_X_tree_10 : decode b_X_tree 10 = .ok (.iload_n 2, 1) := by decide +kernel
theorem d_X_tree_11 : decode b_X_tree 11 = .ok (.ifCond .lt 9, 3) := by decide +kernel
theorem d_X_tree_14 : decode b_X_tree 14 = .ok (.iload_n 2, 1) := by decide +kernel
theorem d_X_tree_15 : decode b_X_tree 15 = .ok (.bipush 17, 2) := by decide +kernel
theorem d_X_tree_17 : decode b_X_tree 17 = .ok (.if_icmp .le 5, 3) := by decide +kernel
theorem d_X_tree_20 : decode b_X_tree 20 = .ok (.iconst (-1), 1) := by decide +kernel
theorem d_X_tree_21 : decode b_X_tree 21 = .ok (.ireturn, 1) := by decide +kernel
theorem d_X_tree_22 : decode b_X_tree 22 = .ok (.aload_n 0, 1) := by decide +kernel
theorem d_X_tree_23 : decode b_X_tree 23 = .ok (.lconst 0, 1) := by decide +kernel
theorem d_X_tree_24 : decode b_X_tree 24 = .ok (.iconst 0, 1) := by decide +kernel
theorem d_X_tree_25 : decode b_X_tree 25 = .ok (.iload_n 1, 1) := by decide +kernel
theorem d_X_tree_26 : decode b_X_tree 26 = .ok (.iconst (-1), 1) := by decide +kernel
theorem d_X_tree_27 : decode b_X_tree 27 = .ok (.invokestatic 285, 3) := by decide +kernel
theorem d_X_tree_30 : decode b_X_tree 30 = .ok (.i2l, 1) := by decide +kernel
theorem d_X_tree_31 : decode b_X_tree 31 = .ok (.lconst 1, 1) := by decide +kernel
theorem d_X_tree_32 : decode b_X_tree 32 = .ok (.invokevirtual 225, 3) := by decide +kernel
theorem d_X_tree_35 : decode b_X_tree 35 = .ok (.aload_n 0, 1) := by decide +kernel
theorem d_X_tree_36 : decode b_X_tree 36 = .ok (.lconst 0, 1) := by decide +kernel
theorem d_X_tree_37 : decode b_X_tree 37 = .ok (.iconst 0, 1) := by decide +kernel
theorem d_X_tree_38 : decode b_X_tree 38 = .ok (.iload_n 1, 1) := by decide +kernel
theorem d_X_tree_39 : decode b_X_tree 39 = .ok (.iload_n 2, 1) := by decide +kernel
theorem d_X_tree_40 : decode b_X_tree 40 = .ok (.invokestatic 285, 3) := by decide +kernel
theorem d_X_tree_43 : decode b_X_tree 43 = .ok (.putfield 99, 3) := by decide +kernel
theorem d_X_tree_46 : decode b_X_tree 46 = .ok (.iconst 1, 1) := by decide +kernel
theorem d_X_tree_47 : decode b_X_tree 47 = .ok (.ireturn, 1) := by decide +kernel
theorem d_X_setsBelow_0 : decode b_X_setsBelow 0 = .ok (.iload_n 3, 1) := by decide +kernel
theorem d_X_setsBelow_1 : decode b_X_setsBelow 1 = .ok (.ifCond .le 9, 3) := by decide +kernel
theorem d_X_setsBelow_4 : decode b_X_setsBelow 4 = .ok (.iload_n 3, 1) := by decide +kernel
theorem d_X_setsBelow_5 : decode b_X_setsBelow 5 = .ok (.bipush 9, 2) := by decide +kernel
theorem d_X_setsBelow_7 : decode b_X_setsBelow 7 = .ok (.if_icmp .le 21, 3) := by decide +kernel
theorem d_X_setsBelow_10 : decode b_X_setsBelow 10 = .ok (.iload 4, 2) := by decide +kernel
theorem d_X_setsBelow_12 : decode b_X_setsBelow 12 = .ok (.iconst (-1), 1) := by decide +kernel
theorem d_X_setsBelow_13 : decode b_X_setsBelow 13 = .ok (.if_icmp .eq 9, 3) := by decide +kernel
theorem d_X_setsBelow_16 : decode b_X_setsBelow 16 = .ok (.iload 4, 2) := by decide +kernel
theorem d_X_setsBelow_18 : decode b_X_setsBelow 18 = .ok (.iload_n 2, 1) := by decide +kernel
theorem d_X_setsBelow_19 : decode b_X_setsBelow 19 = .ok (.if_icmp .ne 7, 3) := by decide +kernel
theorem d_X_setsBelow_22 : decode b_X_setsBelow 22 = .ok (.iconst 1, 1) := by decide +kernel
theorem d_X_setsBelow_23 : decode b_X_setsBelow 23 = .ok (.goto 4, 3) := by decide +kernel
theorem d_X_setsBelow_26 : decode b_X_setsBelow 26 = .ok (.iconst 0, 1) := by decide +kernel
theorem d_X_setsBelow_27 : decode b_X_setsBelow 27 = .ok (.ireturn, 1) := by decide +kernel
theorem d_X_setsBelow_28 : decode b_X_setsBelow 28 = .ok (.iconst 0, 1) := by decide +kernel
theorem d_X_setsBelow_29 : decode b_X_setsBelow 29 = .ok (.istore 5, 2) := by decide +kernel
theorem d_X_setsBelow_31 : decode b_X_setsBelow 31 = .ok (.iload_n 2, 1) := by decide +kernel
theorem d_X_setsBelow_32 : decode b_X_setsBelow 32 = .ok (.lload_n 0, 1) := by decide +kernel
theorem d_X_setsBelow_33 : decode b_X_setsBelow 33 = .ok (.ldc2_w 329, 3) := by decide +kernel
theorem d_X_setsBelow_36 : decode b_X_setsBelow 36 = .ok (.lxor, 1) := by decide +kernel
theorem d_X_setsBelow_37 : decode b_X_setsBelow 37 = .ok (.ldc2_w 331, 3) := by decide +kernel
theorem d_X_setsBelow_40 : decode b_X_setsBelow 40 = .ok (.land, 1) := by decide +kernel
theorem d_X_setsBelow_41 : decode b_X_setsBelow 41 = .ok (.invokestatic 333, 3) := by decide +kernel
theorem d_X_setsBelow_44 : decode b_X_setsBelow 44 = .ok (.iadd, 1) := by decide +kernel
theorem d_X_setsBelow_45 : decode b_X_setsBelow 45 = .ok (.istore 6, 2) := by decide +kernel
theorem d_X_setsBelow_47 : decode b_X_setsBelow 47 = .ok (.iload_n 2, 1) := by decide +kernel
theorem d_X_setsBelow_48 : decode b_X_setsBelow 48 = .ok (.iconst 1, 1) := by decide +kernel
theorem d_X_setsBelow_49 : decode b_X_setsBelow 49 = .ok (.iadd, 1) := by decide +kernel
theorem d_X_setsBelow_50 : decode b_X_setsBelow 50 = .ok (.istore 7, 2) := by decide +kernel
theorem d_X_setsBelow_52 : decode b_X_setsBelow 52 = .ok (.iload 7, 2) := by decide +kernel
theorem d_X_setsBelow_54 : decode b_X_setsBelow 54 = .ok (.iload 6, 2) := by decide +kernel
theorem d_X_setsBelow_56 : decode b_X_setsBelow 56 = .ok (.if_icmp .gt 46, 3) := by decide +kernel
theorem d_X_setsBelow_59 : decode b_X_setsBelow 59 = .ok (.iload 7, 2) := by decide +kernel
theorem d_X_setsBelow_61 : decode b_X_setsBelow 61 = .ok (.bipush 60, 2) := by decide +kernel
theorem d_X_setsBelow_63 : decode b_X_setsBelow 63 = .ok (.if_icmp .gt 39, 3) := by decide +kernel
theorem d_X_setsBelow_66 : decode b_X_setsBelow 66 = .ok (.lload_n 0, 1) := by decide +kernel
theorem d_X_setsBelow_67 : decode b_X_setsBelow 67 = .ok (.iload 7, 2) := by decide +kernel
theorem d_X_setsBelow_69 : decode b_X_setsBelow 69 = .ok (.invokestatic 281, 3) := by decide +kernel
theorem d_X_setsBelow_72 : decode b_X_setsBelow 72 = .ok (.ifCond .eq 24, 3) := by decide +kernel
theorem d_X_setsBelow_75 : decode b_X_setsBelow 75 = .ok (.iload 5, 2) := by decide +kernel
theorem d_X_setsBelow_77 : decode b_X_setsBelow 77 = .ok (.lload_n 0, 1) := by decide +kernel
theorem d_X_setsBelow_78 : decode b_X_setsBelow 78 = .ok (.lconst 1, 1) := by decide +kernel
theorem d_X_setsBelow_79 : decode b_X_setsBelow 79 = .ok (.iload 7, 2) := by decide +kernel
theorem d_X_setsBelow_81 : decode b_X_setsBelow 81 = .ok (.lshl, 1) := by decide +kernel
theorem d_X_setsBelow_82 : decode b_X_setsBelow 82 = .ok (.lor, 1) := by decide +kernel
theorem d_X_setsBelow_83 : decode b_X_setsBelow 83 = .ok (.iload 7, 2) := by decide +kernel
theorem d_X_setsBelow_85 : decode b_X_setsBelow 85 = .ok (.iload_n 3, 1) := by decide +kernel
theorem d_X_setsBelow_86 : decode b_X_setsBelow 86 = .ok (.iconst 1, 1) := by decide +kernel
theorem d_X_setsBelow_87 : decode b_X_setsBelow 87 = .ok (.isub, 1) := by decide +kernel
theorem d_X_setsBelow_88 : decode b_X_setsBelow 88 = .ok (.iload 4, 2) := by decide +kernel
theorem d_X_setsBelow_90 : decode b_X_setsBelow 90 = .ok (.invokestatic 285, 3) := by decide +kernel
theorem d_X_setsBelow_93 : decode b_X_setsBelow 93 = .ok (.iadd, 1) := by decide +kernel
theorem d_X_setsBelow_94 : decode b_X_setsBelow 94 = .ok (.istore 5, 2) := by decide +kernel
theorem d_X_setsBelow_96 : decode b_X_setsBelow 96 = .ok (.iinc 7 1, 3) := by decide +kernel
theorem d_X_setsBelow_99 : decode b_X_setsBelow 99 = .ok (.goto (-47), 3) := by decide +kernel
theorem d_X_setsBelow_102 : decode b_X_setsBelow 102 = .ok (.iload 5, 2) := by decide +kernel
theorem d_X_setsBelow_104 : decode b_X_setsBelow 104 = .ok (.ireturn, 1) := by decide +kernel
theorem d_X_asked_0 : decode b_X_asked 0 = .ok (.aload_n 0, 1) := by decide +kernel
theorem d_X_asked_1 : decode b_X_asked 1 = .ok (.getfield 99, 3) := by decide +kernel
theorem d_X_asked_4 : decode b_X_asked 4 = .ok (.ireturn, 1) := by decide +kernel
theorem d_X_upper_0 : decode b_X_upper 0 = .ok (.aload_n 0, 1) := by decide +kernel
theorem d_X_upper_1 : decode b_X_upper 1 = .ok (.getfield 289, 3) := by decide +kernel
theorem d_X_upper_4 : decode b_X_upper 4 = .ok (.lreturn, 1) := by decide +kernel
theorem d_X_lower_0 : decode b_X_lower 0 = .ok (.aload_n 0, 1) := by decide +kernel
theorem d_X_lower_1 : decode b_X_lower 1 = .ok (.getfield 80, 3) := by decide +kernel
theorem d_X_lower_4 : decode b_X_lower 4 = .ok (.lreturn, 1) := by decide +kernel
theorem d_X_count_0 : decode b_X_count 0 = .ok (.iload_n 1, 1) := by decide +kernel
theorem d_X_count_1 : decode b_X_count 1 = .ok (.tableswitch 101 0 7 #[47, 52, 60, 68, 74, 80, 85, 93], 47) := by decide +kernel
theorem d_X_count_48 : decode b_X_count 48 = .ok (.aload_n 0, 1) := by decide +kernel
theorem d_X_count_49 : decode b_X_count 49 = .ok (.getfield 145, 3) := by decide +kernel
theorem d_X_count_52 : decode b_X_count 52 = .ok (.ireturn, 1) := by decide +kernel
theorem d_X_count_53 : decode b_X_count 53 = .ok (.aload_n 0, 1) := by decide +kernel
theorem d_X_count_54 : decode b_X_count 54 = .ok (.getfield 21, 3) := by decide +kernel
theorem d_X_count_57 : decode b_X_count 57 = .ok (.getfield 147, 3) := by decide +kernel
theorem d_X_count_60 : decode b_X_count 60 = .ok (.ireturn, 1) := by decide +kernel
theorem d_X_count_61 : decode b_X_count 61 = .ok (.aload_n 0, 1) := by decide +kernel
theorem d_X_count_62 : decode b_X_count 62 = .ok (.getfield 21, 3) := by decide +kernel
theorem d_X_count_65 : decode b_X_count 65 = .ok (.invokevirtual 184, 3) := by decide +kernel
theorem d_X_count_68 : decode b_X_count 68 = .ok (.ireturn, 1) := by decide +kernel
theorem d_X_count_69 : decode b_X_count 69 = .ok (.aload_n 0, 1) := by decide +kernel
theorem d_X_count_70 : decode b_X_count 70 = .ok (.iconst 1, 1) := by decide +kernel
theorem d_X_count_71 : decode b_X_count 71 = .ok (.invokevirtual 292, 3) := by decide +kernel
theorem d_X_count_74 : decode b_X_count 74 = .ok (.ireturn, 1) := by decide +kernel
theorem d_X_count_75 : decode b_X_count 75 = .ok (.aload_n 0, 1) := by decide +kernel
theorem d_X_count_76 : decode b_X_count 76 = .ok (.iconst 2, 1) := by decide +kernel
theorem d_X_count_77 : decode b_X_count 77 = .ok (.invokevirtual 292, 3) := by decide +kernel
theorem d_X_count_80 : decode b_X_count 80 = .ok (.ireturn, 1) := by decide +kernel
theorem d_X_count_81 : decode b_X_count 81 = .ok (.aload_n 0, 1) := by decide +kernel
theorem d_X_count_82 : decode b_X_count 82 = .ok (.invokevirtual 295, 3) := by decide +kernel
theorem d_X_count_85 : decode b_X_count 85 = .ok (.ireturn, 1) := by decide +kernel
theorem d_X_count_86 : decode b_X_count 86 = .ok (.aload_n 0, 1) := by decide +kernel
theorem d_X_count_87 : decode b_X_count 87 = .ok (.getfield 11, 3) := by decide +kernel
theorem d_X_count_90 : decode b_X_count 90 = .ok (.invokestatic 298, 3) := by decide +kernel
theorem d_X_count_93 : decode b_X_count 93 = .ok (.ireturn, 1) := by decide +kernel
theorem d_X_count_94 : decode b_X_count 94 = .ok (.aload_n 0, 1) := by decide +kernel
theorem d_X_count_95 : decode b_X_count 95 = .ok (.getfield 15, 3) := by decide +kernel
theorem d_X_count_98 : decode b_X_count 98 = .ok (.invokestatic 298, 3) := by decide +kernel
theorem d_X_count_101 : decode b_X_count 101 = .ok (.ireturn, 1) := by decide +kernel
theorem d_X_count_102 : decode b_X_count 102 = .ok (.iconst (-1), 1) := by decide +kernel
theorem d_X_count_103 : decode b_X_count 103 = .ok (.ireturn, 1) := by decide +kernel
theorem d_X_playersOf_0 : decode b_X_playersOf 0 = .ok (.iconst 0, 1) := by decide +kernel
theorem d_X_playersOf_1 : decode b_X_playersOf 1 = .ok (.istore_n 2, 1) := by decide +kernel
theorem d_X_playersOf_2 : decode b_X_playersOf 2 = .ok (.iconst 0, 1) := by decide +kernel
theorem d_X_playersOf_3 : decode b_X_playersOf 3 = .ok (.istore_n 3, 1) := by decide +kernel
theorem d_X_playersOf_4 : decode b_X_playersOf 4 = .ok (.iload_n 3, 1) := by decide +kernel
theorem d_X_playersOf_5 : decode b_X_playersOf 5 = .ok (.aload_n 0, 1) := by decide +kernel
theorem d_X_playersOf_6 : decode b_X_playersOf 6 = .ok (.getfield 145, 3) := by decide +kernel
theorem d_X_playersOf_9 : decode b_X_playersOf 9 = .ok (.if_icmp .ge 24, 3) := by decide +kernel
theorem d_X_playersOf_12 : decode b_X_playersOf 12 = .ok (.aload_n 0, 1) := by decide +kernel
theorem d_X_playersOf_13 : decode b_X_playersOf 13 = .ok (.iload_n 3, 1) := by decide +kernel
theorem d_X_playersOf_14 : decode b_X_playersOf 14 = .ok (.invokevirtual 151, 3) := by decide +kernel
theorem d_X_playersOf_17 : decode b_X_playersOf 17 = .ok (.iload_n 1, 1) := by decide +kernel
theorem d_X_playersOf_18 : decode b_X_playersOf 18 = .ok (.invokestatic 155, 3) := by decide +kernel
theorem d_X_playersOf_21 : decode b_X_playersOf 21 = .ok (.ifCond .eq 6, 3) := by decide +kernel
theorem d_X_playersOf_24 : decode b_X_playersOf 24 = .ok (.iinc 2 1, 3) := by decide +kernel
theorem d_X_playersOf_27 : decode b_X_playersOf 27 = .ok (.iinc 3 1, 3) := by decide +kernel
theorem d_X_playersOf_30 : decode b_X_playersOf 30 = .ok (.goto (-26), 3) := by decide +kernel
theorem d_X_playersOf_33 : decode b_X_playersOf 33 = .ok (.iload_n 2, 1) := by decide +kernel
theorem d_X_playersOf_34 : decode b_X_playersOf 34 = .ok (.ireturn, 1) := by decide +kernel
theorem d_X_keptCount_0 : decode b_X_keptCount 0 = .ok (.iconst 0, 1) := by decide +kernel
theorem d_X_keptCount_1 : decode b_X_keptCount 1 = .ok (.istore_n 1, 1) := by decide +kernel
theorem d_X_keptCount_2 : decode b_X_keptCount 2 = .ok (.iconst 0, 1) := by decide +kernel
theorem d_X_keptCount_3 : decode b_X_keptCount 3 = .ok (.istore_n 2, 1) := by decide +kernel
theorem d_X_keptCount_4 : decode b_X_keptCount 4 = .ok (.iload_n 2, 1) := by decide +kernel
theorem d_X_keptCount_5 : decode b_X_keptCount 5 = .ok (.iconst 3, 1) := by decide +kernel
theorem d_X_keptCount_6 : decode b_X_keptCount 6 = .ok (.if_icmp .ge 21, 3) := by decide +kernel
theorem d_X_keptCount_9 : decode b_X_keptCount 9 = .ok (.aload_n 0, 1) := by decide +kernel
theorem d_X_keptCount_10 : decode b_X_keptCount 10 = .ok (.getfield 29, 3) := by decide +kernel
theorem d_X_keptCount_13 : decode b_X_keptCount 13 = .ok (.iload_n 2, 1) := by decide +kernel
theorem d_X_keptCount_14 : decode b_X_keptCount 14 = .ok (.baload, 1) := by decide +kernel
theorem d_X_keptCount_15 : decode b_X_keptCount 15 = .ok (.ifCond .eq 6, 3) := by decide +kernel
theorem d_X_keptCount_18 : decode b_X_keptCount 18 = .ok (.iinc 1 1, 3) := by decide +kernel
theorem d_X_keptCount_21 : decode b_X_keptCount 21 = .ok (.iinc 2 1, 3) := by decide +kernel
theorem d_X_keptCount_24 : decode b_X_keptCount 24 = .ok (.goto (-20), 3) := by decide +kernel
theorem d_X_keptCount_27 : decode b_X_keptCount 27 = .ok (.iload_n 1, 1) := by decide +kernel
theorem d_X_keptCount_28 : decode b_X_keptCount 28 = .ok (.ireturn, 1) := by decide +kernel
theorem d_X_thereOf_0 : decode b_X_thereOf 0 = .ok (.iconst 0, 1) := by decide +kernel
theorem d_X_thereOf_1 : decode b_X_thereOf 1 = .ok (.istore_n 1, 1) := by decide +kernel
theorem d_X_thereOf_2 : decode b_X_thereOf 2 = .ok (.iconst 0, 1) := by decide +kernel
theorem d_X_thereOf_3 : decode b_X_thereOf 3 = .ok (.istore_n 2, 1) := by decide +kernel
theorem d_X_thereOf_4 : decode b_X_thereOf 4 = .ok (.iload_n 2, 1) := by decide +kernel
theorem d_X_thereOf_5 : decode b_X_thereOf 5 = .ok (.aload_n 0, 1) := by decide +kernel
theorem d_X_thereOf_6 : decode b_X_thereOf 6 = .ok (.arraylength, 1) := by decide +kernel
theorem d_X_thereOf_7 : decode b_X_thereOf 7 = .ok (.if_icmp .ge 21, 3) := by decide +kernel
theorem d_X_thereOf_10 : decode b_X_thereOf 10 = .ok (.aload_n 0, 1) := by decide +kernel
theorem d_X_thereOf_11 : decode b_X_thereOf 11 = .ok (.iload_n 2, 1) := by decide +kernel
theorem d_X_thereOf_12 : decode b_X_thereOf 12 = .ok (.aaload, 1) := by decide +kernel
theorem d_X_thereOf_13 : decode b_X_thereOf 13 = .ok (.invokevirtual 118, 3) := by decide +kernel
theorem d_X_thereOf_16 : decode b_X_thereOf 16 = .ok (.ifCond .eq 6, 3) := by decide +kernel
theorem d_X_thereOf_19 : decode b_X_thereOf 19 = .ok (.iinc 1 1, 3) := by decide +kernel
theorem d_X_thereOf_22 : decode b_X_thereOf 22 = .ok (.iinc 2 1, 3) := by decide +kernel
theorem d_X_thereOf_25 : decode b_X_thereOf 25 = .ok (.goto (-21), 3) := by decide +kernel
theorem d_X_thereOf_28 : decode b_X_thereOf 28 = .ok (.iload_n 1, 1) := by decide +kernel
theorem d_X_thereOf_29 : decode b_X_thereOf 29 = .ok (.ireturn, 1) := by decide +kernel
theorem d_X_finding_0 : decode b_X_finding 0 = .ok (.aload_n 0, 1) := by decide +kernel
theorem d_X_finding_1 : decode b_X_finding 1 = .ok (.getfield 302, 3) := by decide +kernel
theorem d_X_finding_4 : decode b_X_finding 4 = .ok (.ireturn, 1) := by decide +kernel
theorem d_X_findings_0 : decode b_X_findings 0 = .ok (.iload_n 1, 1) := by decide +kernel
theorem d_X_findings_1 : decode b_X_findings 1 = .ok (.iconst 1, 1) := by decide +kernel
theorem d_X_findings_2 : decode b_X_findings 2 = .ok (.if_icmp .lt 8, 3) := by decide +kernel
theorem d_X_findings_5 : decode b_X_findings 5 = .ok (.iload_n 1, 1) := by decide +kernel
theorem d_X_findings_6 : decode b_X_findings 6 = .ok (.iconst 5, 1) := by decide +kernel
theorem d_X_findings_7 : decode b_X_findings 7 = .ok (.if_icmp .le 7, 3) := by decide +kernel
theorem d_X_findings_10 : decode b_X_findings 10 = .ok (.iconst (-1), 1) := by decide +kernel
theorem d_X_findings_11 : decode b_X_findings 11 = .ok (.goto 9, 3) := by decide +kernel
theorem d_X_findings_14 : decode b_X_findings 14 = .ok (.aload_n 0, 1) := by decide +kernel
theorem d_X_findings_15 : decode b_X_findings 15 = .ok (.getfield 84, 3) := by decide +kernel
theorem d_X_findings_18 : decode b_X_findings 18 = .ok (.iload_n 1, 1) := by decide +kernel
theorem d_X_findings_19 : decode b_X_findings 19 = .ok (.iaload, 1) := by decide +kernel
theorem d_X_findings_20 : decode b_X_findings 20 = .ok (.ireturn, 1) := by decide +kernel
theorem d_X_digest_0 : decode b_X_digest 0 = .ok (.ldc2_w 305, 3) := by decide +kernel
theorem d_X_digest_3 : decode b_X_digest 3 = .ok (.lstore_n 1, 1) := by decide +kernel
theorem d_X_digest_4 : decode b_X_digest 4 = .ok (.iconst 0, 1) := by decide +kernel
theorem d_X_digest_5 : decode b_X_digest 5 = .ok (.istore_n 3, 1) := by decide +kernel
theorem d_X_digest_6 : decode b_X_digest 6 = .ok (.iload_n 3, 1) := by decide +kernel
theorem d_X_digest_7 : decode b_X_digest 7 = .ok (.bipush 8, 2) := by decide +kernel
theorem d_X_digest_9 : decode b_X_digest 9 = .ok (.if_icmp .ge 22, 3) := by decide +kernel
theorem d_X_digest_12 : decode b_X_digest 12 = .ok (.ldc2_w 307, 3) := by decide +kernel
theorem d_X_digest_15 : decode b_X_digest 15 = .ok (.lload_n 1, 1) := by decide +kernel
theorem d_X_digest_16 : decode b_X_digest 16 = .ok (.lmul, 1) := by decide +kernel
theorem d_X_digest_17 : decode b_X_digest 17 = .ok (.aload_n 0, 1) := by decide +kernel
theorem d_X_digest_18 : decode b_X_digest 18 = .ok (.iload_n 3, 1) := by decide +kernel
theorem d_X_digest_19 : decode b_X_digest 19 = .ok (.invokevirtual 309, 3) := by decide +kernel
theorem d_X_digest_22 : decode b_X_digest 22 = .ok (.i2l, 1) := by decide +kernel
theorem d_X_digest_23 : decode b_X_digest 23 = .ok (.ladd, 1) := by decide +kernel
theorem d_X_digest_24 : decode b_X_digest 24 = .ok (.lstore_n 1, 1) := by decide +kernel
theorem d_X_digest_25 : decode b_X_digest 25 = .ok (.iinc 3 1, 3) := by decide +kernel
theorem d_X_digest_28 : decode b_X_digest 28 = .ok (.goto (-22), 3) := by decide +kernel
theorem d_X_digest_31 : decode b_X_digest 31 = .ok (.ldc2_w 307, 3) := by decide +kernel
theorem d_X_digest_34 : decode b_X_digest 34 = .ok (.lload_n 1, 1) := by decide +kernel
theorem d_X_digest_35 : decode b_X_digest 35 = .ok (.lmul, 1) := by decide +kernel
theorem d_X_digest_36 : decode b_X_digest 36 = .ok (.aload_n 0, 1) := by decide +kernel
theorem d_X_digest_37 : decode b_X_digest 37 = .ok (.getfield 21, 3) := by decide +kernel
theorem d_X_digest_40 : decode b_X_digest 40 = .ok (.getfield 148, 3) := by decide +kernel
theorem d_X_digest_43 : decode b_X_digest 43 = .ok (.i2l, 1) := by decide +kernel
theorem d_X_digest_44 : decode b_X_digest 44 = .ok (.ladd, 1) := by decide +kernel
theorem d_X_digest_45 : decode b_X_digest 45 = .ok (.lstore_n 1, 1) := by decide +kernel
theorem d_X_digest_46 : decode b_X_digest 46 = .ok (.iconst 0, 1) := by decide +kernel
theorem d_X_digest_47 : decode b_X_digest 47 = .ok (.istore_n 3, 1) := by decide +kernel
theorem d_X_digest_48 : decode b_X_digest 48 = .ok (.iload_n 3, 1) := by decide +kernel
theorem d_X_digest_49 : decode b_X_digest 49 = .ok (.aload_n 0, 1) := by decide +kernel
theorem d_X_digest_50 : decode b_X_digest 50 = .ok (.getfield 145, 3) := by decide +kernel
theorem d_X_digest_53 : decode b_X_digest 53 = .ok (.if_icmp .ge 23, 3) := by decide +kernel
theorem d_X_digest_56 : decode b_X_digest 56 = .ok (.ldc2_w 307, 3) := by decide +kernel
theorem d_X_digest_59 : decode b_X_digest 59 = .ok (.lload_n 1, 1) := by decide +kernel
theorem d_X_digest_60 : decode b_X_digest 60 = .ok (.lmul, 1) := by decide +kernel
theorem d_X_digest_61 : decode b_X_digest 61 = .ok (.aload_n 0, 1) := by decide +kernel
theorem d_X_digest_62 : decode b_X_digest 62 = .ok (.getfield 55, 3) := by decide +kernel
theorem d_X_digest_65 : decode b_X_digest 65 = .ok (.iload_n 3, 1) := by decide +kernel
theorem d_X_digest_66 : decode b_X_digest 66 = .ok (.iaload, 1) := by decide +kernel
theorem d_X_digest_67 : decode b_X_digest 67 = .ok (.i2l, 1) := by decide +kernel
theorem d_X_digest_68 : decode b_X_digest 68 = .ok (.ladd, 1) := by decide +kernel
theorem d_X_digest_69 : decode b_X_digest 69 = .ok (.lstore_n 1, 1) := by decide +kernel
theorem d_X_digest_70 : decode b_X_digest 70 = .ok (.iinc 3 1, 3) := by decide +kernel
theorem d_X_digest_73 : decode b_X_digest 73 = .ok (.goto (-25), 3) := by decide +kernel
theorem d_X_digest_76 : decode b_X_digest 76 = .ok (.aload_n 0, 1) := by decide +kernel
theorem d_X_digest_77 : decode b_X_digest 77 = .ok (.getfield 21, 3) := by decide +kernel
theorem d_X_digest_80 : decode b_X_digest 80 = .ok (.lload_n 1, 1) := by decide +kernel
theorem d_X_digest_81 : decode b_X_digest 81 = .ok (.invokevirtual 312, 3) := by decide +kernel
theorem d_X_digest_84 : decode b_X_digest 84 = .ok (.lstore_n 1, 1) := by decide +kernel
theorem d_X_digest_85 : decode b_X_digest 85 = .ok (.iconst 0, 1) := by decide +kernel
theorem d_X_digest_86 : decode b_X_digest 86 = .ok (.istore_n 3, 1) := by decide +kernel
theorem d_X_digest_87 : decode b_X_digest 87 = .ok (.iload_n 3, 1) := by decide +kernel
theorem d_X_digest_88 : decode b_X_digest 88 = .ok (.iconst 3, 1) := by decide +kernel
theorem d_X_digest_89 : decode b_X_digest 89 = .ok (.if_icmp .ge 54, 3) := by decide +kernel
theorem d_X_digest_92 : decode b_X_digest 92 = .ok (.aload_n 0, 1) := by decide +kernel
theorem d_X_digest_93 : decode b_X_digest 93 = .ok (.getfield 29, 3) := by decide +kernel
theorem d_X_digest_96 : decode b_X_digest 96 = .ok (.iload_n 3, 1) := by decide +kernel
theorem d_X_digest_97 : decode b_X_digest 97 = .ok (.baload, 1) := by decide +kernel
theorem d_X_digest_98 : decode b_X_digest 98 = .ok (.ifCond .eq 31, 3) := by decide +kernel
theorem d_X_digest_101 : decode b_X_digest 101 = .ok (.aload_n 0, 1) := by decide +kernel
theorem d_X_digest_102 : decode b_X_digest 102 = .ok (.getfield 25, 3) := by decide +kernel
theorem d_X_digest_105 : decode b_X_digest 105 = .ok (.iload_n 3, 1) := by decide +kernel
theorem d_X_digest_106 : decode b_X_digest 106 = .ok (.aaload, 1) := by decide +kernel
theorem d_X_digest_107 : decode b_X_digest 107 = .ok (.ldc2_w 307, 3) := by decide +kernel
theorem d_X_digest_110 : decode b_X_digest 110 = .ok (.lload_n 1, 1) := by decide +kernel
theorem d_X_digest_111 : decode b_X_digest 111 = .ok (.lmul, 1) := by decide +kernel
theorem d_X_digest_112 : decode b_X_digest 112 = .ok (.aload_n 0, 1) := by decide +kernel
theorem d_X_digest_113 : decode b_X_digest 113 = .ok (.getfield 25, 3) := by decide +kernel
theorem d_X_digest_116 : decode b_X_digest 116 = .ok (.iload_n 3, 1) := by decide +kernel
theorem d_X_digest_117 : decode b_X_digest 117 = .ok (.aaload, 1) := by decide +kernel
theorem d_X_digest_118 : decode b_X_digest 118 = .ok (.getfield 148, 3) := by decide +kernel
theorem d_X_digest_121 : decode b_X_digest 121 = .ok (.i2l, 1) := by decide +kernel
theorem d_X_digest_122 : decode b_X_digest 122 = .ok (.ladd, 1) := by decide +kernel
theorem d_X_digest_123 : decode b_X_digest 123 = .ok (.invokevirtual 312, 3) := by decide +kernel
theorem d_X_digest_126 : decode b_X_digest 126 = .ok (.goto 10, 3) := by decide +kernel
theorem d_X_digest_129 : decode b_X_digest 129 = .ok (.ldc2_w 307, 3) := by decide +kernel
theorem d_X_digest_132 : decode b_X_digest 132 = .ok (.lload_n 1, 1) := by decide +kernel
theorem d_X_digest_133 : decode b_X_digest 133 = .ok (.lmul, 1) := by decide +kernel
theorem d_X_digest_134 : decode b_X_digest 134 = .ok (.lconst 1, 1) := by decide +kernel
theorem d_X_digest_135 : decode b_X_digest 135 = .ok (.lsub, 1) := by decide +kernel
theorem d_X_digest_136 : decode b_X_digest 136 = .ok (.lstore_n 1, 1) := by decide +kernel
theorem d_X_digest_137 : decode b_X_digest 137 = .ok (.iinc 3 1, 3) := by decide +kernel
theorem d_X_digest_140 : decode b_X_digest 140 = .ok (.goto (-53), 3) := by decide +kernel
theorem d_X_digest_143 : decode b_X_digest 143 = .ok (.iconst 0, 1) := by decide +kernel
theorem d_X_digest_144 : decode b_X_digest 144 = .ok (.istore_n 3, 1) := by decide +kernel
theorem d_X_digest_145 : decode b_X_digest 145 = .ok (.iload_n 3, 1) := by decide +kernel
theorem d_X_digest_146 : decode b_X_digest 146 = .ok (.bipush 6, 2) := by decide +kernel
theorem d_X_digest_148 : decode b_X_digest 148 = .ok (.if_icmp .ge 20, 3) := by decide +kernel
theorem d_X_digest_151 : decode b_X_digest 151 = .ok (.aload_n 0, 1) := by decide +kernel
theorem d_X_digest_152 : decode b_X_digest 152 = .ok (.getfield 11, 3) := by decide +kernel
theorem d_X_digest_155 : decode b_X_digest 155 = .ok (.iload_n 3, 1) := by decide +kernel
theorem d_X_digest_156 : decode b_X_digest 156 = .ok (.aaload, 1) := by decide +kernel
theorem d_X_digest_157 : decode b_X_digest 157 = .ok (.lload_n 1, 1) := by decide +kernel
theorem d_X_digest_158 : decode b_X_digest 158 = .ok (.invokevirtual 316, 3) := by decide +kernel
theorem d_X_digest_161 : decode b_X_digest 161 = .ok (.lstore_n 1, 1) := by decide +kernel
theorem d_X_digest_162 : decode b_X_digest 162 = .ok (.iinc 3 1, 3) := by decide +kernel
theorem d_X_digest_165 : decode b_X_digest 165 = .ok (.goto (-20), 3) := by decide +kernel
theorem d_X_digest_168 : decode b_X_digest 168 = .ok (.iconst 0, 1) := by decide +kernel
theorem d_X_digest_169 : decode b_X_digest 169 = .ok (.istore_n 3, 1) := by decide +kernel
theorem d_X_digest_170 : decode b_X_digest 170 = .ok (.iload_n 3, 1) := by decide +kernel
theorem d_X_digest_171 : decode b_X_digest 171 = .ok (.iconst 4, 1) := by decide +kernel
theorem d_X_digest_172 : decode b_X_digest 172 = .ok (.if_icmp .ge 20, 3) := by decide +kernel
theorem d_X_digest_175 : decode b_X_digest 175 = .ok (.aload_n 0, 1) := by decide +kernel
theorem d_X_digest_176 : decode b_X_digest 176 = .ok (.getfield 15, 3) := by decide +kernel
theorem d_X_digest_179 : decode b_X_digest 179 = .ok (.iload_n 3, 1) := by decide +kernel
theorem d_X_digest_180 : decode b_X_digest 180 = .ok (.aaload, 1) := by decide +kernel
theorem d_X_digest_181 : decode b_X_digest 181 = .ok (.lload_n 1, 1) := by decide +kernel
theorem d_X_digest_182 : decode b_X_digest 182 = .ok (.invokevirtual 316, 3) := by decide +kernel
theorem d_X_digest_185 : decode b_X_digest 185 = .ok (.lstore_n 1, 1) := by decide +kernel
theorem d_X_digest_186 : decode b_X_digest 186 = .ok (.iinc 3 1, 3) := by decide +kernel
theorem d_X_digest_189 : decode b_X_digest 189 = .ok (.goto (-19), 3) := by decide +kernel
theorem d_X_digest_192 : decode b_X_digest 192 = .ok (.lload_n 1, 1) := by decide +kernel
theorem d_X_digest_193 : decode b_X_digest 193 = .ok (.lreturn, 1) := by decide +kernel
theorem d_Gm_digestNumbers_0 : decode b_Gm_digestNumbers 0 = .ok (.lload_n 1, 1) := by decide +kernel
theorem d_Gm_digestNumbers_1 : decode b_Gm_digestNumbers 1 = .ok (.lstore_n 3, 1) := by decide +kernel
theorem d_Gm_digestNumbers_2 : decode b_Gm_digestNumbers 2 = .ok (.iconst 0, 1) := by decide +kernel
theorem d_Gm_digestNumbers_3 : decode b_Gm_digestNumbers 3 = .ok (.istore 5, 2) := by decide +kernel
theorem d_Gm_digestNumbers_5 : decode b_Gm_digestNumbers 5 = .ok (.iload 5, 2) := by decide +kernel
theorem d_Gm_digestNumbers_7 : decode b_Gm_digestNumbers 7 = .ok (.aload_n 0, 1) := by decide +kernel
theorem d_Gm_digestNumbers_8 : decode b_Gm_digestNumbers 8 = .ok (.getfield 23, 3) := by decide +kernel
theorem d_Gm_digestNumbers_11 : decode b_Gm_digestNumbers 11 = .ok (.if_icmp .ge 24, 3) := by decide +kernel
theorem d_Gm_digestNumbers_14 : decode b_Gm_digestNumbers 14 = .ok (.ldc2_w 80, 3) := by decide +kernel
theorem d_Gm_digestNumbers_17 : decode b_Gm_digestNumbers 17 = .ok (.lload_n 3, 1) := by decide +kernel
theorem d_Gm_digestNumbers_18 : decode b_Gm_digestNumbers 18 = .ok (.lmul, 1) := by decide +kernel
theorem d_Gm_digestNumbers_19 : decode b_Gm_digestNumbers 19 = .ok (.aload_n 0, 1) := by decide +kernel
theorem d_Gm_digestNumbers_20 : decode b_Gm_digestNumbers 20 = .ok (.getfield 9, 3) := by decide +kernel
theorem d_Gm_digestNumbers_23 : decode b_Gm_digestNumbers 23 = .ok (.iload 5, 2) := by decide +kernel
theorem d_Gm_digestNumbers_25 : decode b_Gm_digestNumbers 25 = .ok (.iaload, 1) := by decide +kernel
theorem d_Gm_digestNumbers_26 : decode b_Gm_digestNumbers 26 = .ok (.i2l, 1) := by decide +kernel
theorem d_Gm_digestNumbers_27 : decode b_Gm_digestNumbers 27 = .ok (.ladd, 1) := by decide +kernel
theorem d_Gm_digestNumbers_28 : decode b_Gm_digestNumbers 28 = .ok (.lstore_n 3, 1) := by decide +kernel
theorem d_Gm_digestNumbers_29 : decode b_Gm_digestNumbers 29 = .ok (.iinc 5 1, 3) := by decide +kernel
theorem d_Gm_digestNumbers_32 : decode b_Gm_digestNumbers 32 = .ok (.goto (-27), 3) := by decide +kernel
theorem d_Gm_digestNumbers_35 : decode b_Gm_digestNumbers 35 = .ok (.lload_n 3, 1) := by decide +kernel
theorem d_Gm_digestNumbers_36 : decode b_Gm_digestNumbers 36 = .ok (.lreturn, 1) := by decide +kernel
theorem d_Rw_digestPlaces_0 : decode b_Rw_digestPlaces 0 = .ok (.ldc2_w 31, 3) := by decide +kernel
theorem d_Rw_digestPlaces_3 : decode b_Rw_digestPlaces 3 = .ok (.lload_n 1, 1) := by decide +kernel
theorem d_Rw_digestPlaces_4 : decode b_Rw_digestPlaces 4 = .ok (.lmul, 1) := by decide +kernel
theorem d_Rw_digestPlaces_5 : decode b_Rw_digestPlaces 5 = .ok (.aload_n 0, 1) := by decide +kernel
theorem d_Rw_digestPlaces_6 : decode b_Rw_digestPlaces 6 = .ok (.getfield 15, 3) := by decide +kernel
theorem d_Rw_digestPlaces_9 : decode b_Rw_digestPlaces 9 = .ok (.i2l, 1) := by decide +kernel
theorem d_Rw_digestPlaces_10 : decode b_Rw_digestPlaces 10 = .ok (.ladd, 1) := by decide +kernel
theorem d_Rw_digestPlaces_11 : decode b_Rw_digestPlaces 11 = .ok (.lstore_n 3, 1) := by decide +kernel
theorem d_Rw_digestPlaces_12 : decode b_Rw_digestPlaces 12 = .ok (.iconst 0, 1) := by decide +kernel
theorem d_Rw_digestPlaces_13 : decode b_Rw_digestPlaces 13 = .ok (.istore 5, 2) := by decide +kernel
theorem d_Rw_digestPlaces_15 : decode b_Rw_digestPlaces 15 = .ok (.iload 5, 2) := by decide +kernel
theorem d_Rw_digestPlaces_17 : decode b_Rw_digestPlaces 17 = .ok (.aload_n 0, 1) := by decide +kernel
theorem d_Rw_digestPlaces_18 : decode b_Rw_digestPlaces 18 = .ok (.getfield 15, 3) := by decide +kernel
theorem d_Rw_digestPlaces_21 : decode b_Rw_digestPlaces 21 = .ok (.if_icmp .ge 24, 3) := by decide +kernel
theorem d_Rw_digestPlaces_24 : decode b_Rw_digestPlaces 24 = .ok (.ldc2_w 31, 3) := by decide +kernel
theorem d_Rw_digestPlaces_27 : decode b_Rw_digestPlaces 27 = .ok (.lload_n 3, 1) := by decide +kernel
theorem d_Rw_digestPlaces_28 : decode b_Rw_digestPlaces 28 = .ok (.lmul, 1) := by decide +kernel
theorem d_Rw_digestPlaces_29 : decode b_Rw_digestPlaces 29 = .ok (.aload_n 0, 1) := by decide +kernel
theorem d_Rw_digestPlaces_30 : decode b_Rw_digestPlaces 30 = .ok (.getfield 9, 3) := by decide +kernel
theorem d_Rw_digestPlaces_33 : decode b_Rw_digestPlaces 33 = .ok (.iload 5, 2) := by decide +kernel
theorem d_Rw_digestPlaces_35 : decode b_Rw_digestPlaces 35 = .ok (.iaload, 1) := by decide +kernel
theorem d_Rw_digestPlaces_36 : decode b_Rw_digestPlaces 36 = .ok (.i2l, 1) := by decide +kernel
theorem d_Rw_digestPlaces_37 : decode b_Rw_digestPlaces 37 = .ok (.ladd, 1) := by decide +kernel
theorem d_Rw_digestPlaces_38 : decode b_Rw_digestPlaces 38 = .ok (.lstore_n 3, 1) := by decide +kernel
theorem d_Rw_digestPlaces_39 : decode b_Rw_digestPlaces 39 = .ok (.iinc 5 1, 3) := by decide +kernel
theorem d_Rw_digestPlaces_42 : decode b_Rw_digestPlaces 42 = .ok (.goto (-27), 3) := by decide +kernel
theorem d_Rw_digestPlaces_45 : decode b_Rw_digestPlaces 45 = .ok (.lload_n 3, 1) := by decide +kernel
theorem d_Rw_digestPlaces_46 : decode b_Rw_digestPlaces 46 = .ok (.lreturn, 1) := by decide +kernel
theorem d_M_init_0 : decode b_M_init 0 = .ok (.aload_n 0, 1) := by decide +kernel
theorem d_M_init_1 : decode b_M_init 1 = .ok (.invokespecial 1, 3) := by decide +kernel
theorem d_M_init_4 : decode b_M_init 4 = .ok (.aload_n 0, 1) := by decide +kernel
theorem d_M_init_5 : decode b_M_init 5 = .ok (.bipush 6, 2) := by decide +kernel
theorem d_M_init_7 : decode b_M_init 7 = .ok (.newarray .int, 2) := by decide +kernel
theorem d_M_init_9 : decode b_M_init 9 = .ok (.putfield 7, 3) := by decide +kernel
theorem d_M_init_12 : decode b_M_init 12 = .ok (.aload_n 0, 1) := by decide +kernel
theorem d_M_init_13 : decode b_M_init 13 = .ok (.bipush 6, 2) := by decide +kernel
theorem d_M_init_15 : decode b_M_init 15 = .ok (.newarray .int, 2) := by decide +kernel
theorem d_M_init_17 : decode b_M_init 17 = .ok (.putfield 13, 3) := by decide +kernel
theorem d_M_init_20 : decode b_M_init 20 = .ok (.aload_n 0, 1) := by decide +kernel
theorem d_M_init_21 : decode b_M_init 21 = .ok (.sipush 360, 3) := by decide +kernel
theorem d_M_init_24 : decode b_M_init 24 = .ok (.newarray .int, 2) := by decide +kernel
theorem d_M_init_26 : decode b_M_init 26 = .ok (.putfield 16, 3) := by decide +kernel
theorem d_M_init_29 : decode b_M_init 29 = .ok (.aload_n 0, 1) := by decide +kernel
theorem d_M_init_30 : decode b_M_init 30 = .ok (.bipush 60, 2) := by decide +kernel
theorem d_M_init_32 : decode b_M_init 32 = .ok (.newarray .int, 2) := by decide +kernel
theorem d_M_init_34 : decode b_M_init 34 = .ok (.putfield 19, 3) := by decide +kernel
theorem d_M_init_37 : decode b_M_init 37 = .ok (.aload_n 0, 1) := by decide +kernel
theorem d_M_init_38 : decode b_M_init 38 = .ok (.iconst 4, 1) := by decide +kernel
theorem d_M_init_39 : decode b_M_init 39 = .ok (.newarray .int, 2) := by decide +kernel
theorem d_M_init_41 : decode b_M_init 41 = .ok (.putfield 22, 3) := by decide +kernel
theorem d_M_init_44 : decode b_M_init 44 = .ok (.aload_n 0, 1) := by decide +kernel
theorem d_M_init_45 : decode b_M_init 45 = .ok (.sipush 240, 3) := by decide +kernel
theorem d_M_init_48 : decode b_M_init 48 = .ok (.newarray .byte, 2) := by decide +kernel
theorem d_M_init_50 : decode b_M_init 50 = .ok (.putfield 25, 3) := by decide +kernel
theorem d_M_init_53 : decode b_M_init 53 = .ok (.aload_n 0, 1) := by decide +kernel
theorem d_M_init_54 : decode b_M_init 54 = .ok (.sipush 4001, 3) := by decide +kernel
theorem d_M_init_57 : decode b_M_init 57 = .ok (.newarray .int, 2) := by decide +kernel
theorem d_M_init_59 : decode b_M_init 59 = .ok (.putfield 29, 3) := by decide +kernel
theorem d_M_init_62 : decode b_M_init 62 = .ok (.aload_n 0, 1) := by decide +kernel
theorem d_M_init_63 : decode b_M_init 63 = .ok (.iconst 2, 1) := by decide +kernel
theorem d_M_init_64 : decode b_M_init 64 = .ok (.newarray .int, 2) := by decide +kernel
theorem d_M_init_66 : decode b_M_init 66 = .ok (.putfield 32, 3) := by decide +kernel
theorem d_M_init_69 : decode b_M_init 69 = .ok (.aload_n 0, 1) := by decide +kernel
theorem d_M_init_70 : decode b_M_init 70 = .ok (.bipush 14, 2) := by decide +kernel
theorem d_M_init_72 : decode b_M_init 72 = .ok (.newarray .int, 2) := by decide +kernel
theorem d_M_init_74 : decode b_M_init 74 = .ok (.putfield 35, 3) := by decide +kernel
theorem d_M_init_77 : decode b_M_init 77 = .ok (.aload_n 0, 1) := by decide +kernel
theorem d_M_init_78 : decode b_M_init 78 = .ok (.iconst 2, 1) := by decide +kernel
theorem d_M_init_79 : decode b_M_init 79 = .ok (.newarray .int, 2) := by decide +kernel
theorem d_M_init_81 : decode b_M_init 81 = .ok (.putfield 38, 3) := by decide +kernel
theorem d_M_init_84 : decode b_M_init 84 = .ok (.aload_n 0, 1) := by decide +kernel
theorem d_M_init_85 : decode b_M_init 85 = .ok (.bipush 14, 2) := by decide +kernel
theorem d_M_init_87 : decode b_M_init 87 = .ok (.newarray .int, 2) := by decide +kernel
theorem d_M_init_89 : decode b_M_init 89 = .ok (.putfield 41, 3) := by decide +kernel
theorem d_M_init_92 : decode b_M_init 92 = .ok (.aload_n 0, 1) := by decide +kernel
theorem d_M_init_93 : decode b_M_init 93 = .ok (.iconst 3, 1) := by decide +kernel
theorem d_M_init_94 : decode b_M_init 94 = .ok (.newarray .int, 2) := by decide +kernel
theorem d_M_init_96 : decode b_M_init 96 = .ok (.putfield 44, 3) := by decide +kernel
theorem d_M_init_99 : decode b_M_init 99 = .ok (.aload_n 0, 1) := by decide +kernel
theorem d_M_init_100 : decode b_M_init 100 = .ok (.iconst 3, 1) := by decide +kernel
theorem d_M_init_101 : decode b_M_init 101 = .ok (.newarray .int, 2) := by decide +kernel
theorem d_M_init_103 : decode b_M_init 103 = .ok (.putfield 47, 3) := by decide +kernel
theorem d_M_init_106 : decode b_M_init 106 = .ok (.aload_n 0, 1) := by decide +kernel
theorem d_M_init_107 : decode b_M_init 107 = .ok (.bipush 42, 2) := by decide +kernel
theorem d_M_init_109 : decode b_M_init 109 = .ok (.newarray .int, 2) := by decide +kernel
theorem d_M_init_111 : decode b_M_init 111 = .ok (.putfield 50, 3) := by decide +kernel
theorem d_M_init_114 : decode b_M_init 114 = .ok (.aload_n 0, 1) := by decide +kernel
theorem d_M_init_115 : decode b_M_init 115 = .ok (.sipush 401, 3) := by decide +kernel
theorem d_M_init_118 : decode b_M_init 118 = .ok (.newarray .long, 2) := by decide +kernel
theorem d_M_init_120 : decode b_M_init 120 = .ok (.putfield 53, 3) := by decide +kernel
theorem d_M_init_123 : decode b_M_init 123 = .ok (.aload_n 0, 1) := by decide +kernel
theorem d_M_init_124 : decode b_M_init 124 = .ok (.sipush 8421, 3) := by decide +kernel
theorem d_M_init_127 : decode b_M_init 127 = .ok (.newarray .long, 2) := by decide +kernel
theorem d_M_init_129 : decode b_M_init 129 = .ok (.putfield 57, 3) := by decide +kernel
theorem d_M_init_132 : decode b_M_init 132 = .ok (.aload_n 0, 1) := by decide +kernel
theorem d_M_init_133 : decode b_M_init 133 = .ok (.bipush 14, 2) := by decide +kernel
theorem d_M_init_135 : decode b_M_init 135 = .ok (.newarray .int, 2) := by decide +kernel
theorem d_M_init_137 : decode b_M_init 137 = .ok (.putfield 60, 3) := by decide +kernel
theorem d_M_init_140 : decode b_M_init 140 = .ok (.aload_n 0, 1) := by decide +kernel
theorem d_M_init_141 : decode b_M_init 141 = .ok (.bipush 14, 2) := by decide +kernel
theorem d_M_init_143 : decode b_M_init 143 = .ok (.newarray .int, 2) := by decide +kernel
theorem d_M_init_145 : decode b_M_init 145 = .ok (.putfield 63, 3) := by decide +kernel
theorem d_M_init_148 : decode b_M_init 148 = .ok (.aload_n 0, 1) := by decide +kernel
theorem d_M_init_149 : decode b_M_init 149 = .ok (.bipush 61, 2) := by decide +kernel
theorem d_M_init_151 : decode b_M_init 151 = .ok (.newarray .int, 2) := by decide +kernel
theorem d_M_init_153 : decode b_M_init 153 = .ok (.putfield 66, 3) := by decide +kernel
theorem d_M_init_156 : decode b_M_init 156 = .ok (.aload_n 0, 1) := by decide +kernel
theorem d_M_init_157 : decode b_M_init 157 = .ok (.sipush 16384, 3) := by decide +kernel
theorem d_M_init_160 : decode b_M_init 160 = .ok (.newarray .boolean, 2) := by decide +kernel
theorem d_M_init_162 : decode b_M_init 162 = .ok (.putfield 69, 3) := by decide +kernel
theorem d_M_init_165 : decode b_M_init 165 = .ok (.aload_n 0, 1) := by decide +kernel
theorem d_M_init_166 : decode b_M_init 166 = .ok (.sipush 16384, 3) := by decide +kernel
theorem d_M_init_169 : decode b_M_init 169 = .ok (.newarray .int, 2) := by decide +kernel
theorem d_M_init_171 : decode b_M_init 171 = .ok (.putfield 73, 3) := by decide +kernel
theorem d_M_init_174 : decode b_M_init 174 = .ok (.aload_n 0, 1) := by decide +kernel
theorem d_M_init_175 : decode b_M_init 175 = .ok (.sipush 16384, 3) := by decide +kernel
theorem d_M_init_178 : decode b_M_init 178 = .ok (.newarray .int, 2) := by decide +kernel
theorem d_M_init_180 : decode b_M_init 180 = .ok (.putfield 76, 3) := by decide +kernel
theorem d_M_init_183 : decode b_M_init 183 = .ok (.aload_n 0, 1) := by decide +kernel
theorem d_M_init_184 : decode b_M_init 184 = .ok (.bipush 122, 2) := by decide +kernel
theorem d_M_init_186 : decode b_M_init 186 = .ok (.newarray .boolean, 2) := by decide +kernel
theorem d_M_init_188 : decode b_M_init 188 = .ok (.putfield 79, 3) := by decide +kernel
theorem d_M_init_191 : decode b_M_init 191 = .ok (.aload_n 0, 1) := by decide +kernel
theorem d_M_init_192 : decode b_M_init 192 = .ok (.sipush 200, 3) := by decide +kernel
theorem d_M_init_195 : decode b_M_init 195 = .ok (.newarray .int, 2) := by decide +kernel
theorem d_M_init_197 : decode b_M_init 197 = .ok (.putfield 82, 3) := by decide +kernel
theorem d_M_init_200 : decode b_M_init 200 = .ok (.aload_n 0, 1) := by decide +kernel
theorem d_M_init_201 : decode b_M_init 201 = .ok (.sipush 200, 3) := by decide +kernel
theorem d_M_init_204 : decode b_M_init 204 = .ok (.newarray .int, 2) := by decide +kernel
theorem d_M_init_206 : decode b_M_init 206 = .ok (.putfield 85, 3) := by decide +kernel
theorem d_M_init_209 : decode b_M_init 209 = .ok (.aload_n 0, 1) := by decide +kernel
theorem d_M_init_210 : decode b_M_init 210 = .ok (.lconst 1, 1) := by decide +kernel
theorem d_M_init_211 : decode b_M_init 211 = .ok (.putfield 88, 3) := by decide +kernel
theorem d_M_init_214 : decode b_M_init 214 = .ok (.iconst 0, 1) := by decide +kernel
theorem d_M_init_215 : decode b_M_init 215 = .ok (.istore_n 1, 1) := by decide +kernel
theorem d_M_init_216 : decode b_M_init 216 = .ok (.iload_n 1, 1) := by decide +kernel
theorem d_M_init_217 : decode b_M_init 217 = .ok (.bipush 6, 2) := by decide +kernel
theorem d_M_init_219 : decode b_M_init 219 = .ok (.if_icmp .ge 16, 3) := by decide +kernel
theorem d_M_init_222 : decode b_M_init 222 = .ok (.aload_n 0, 1) := by decide +kernel
theorem d_M_init_223 : decode b_M_init 223 = .ok (.getfield 13, 3) := by decide +kernel
theorem d_M_init_226 : decode b_M_init 226 = .ok (.iload_n 1, 1) := by decide +kernel
theorem d_M_init_227 : decode b_M_init 227 = .ok (.iconst (-1), 1) := by decide +kernel
theorem d_M_init_228 : decode b_M_init 228 = .ok (.iastore, 1) := by decide +kernel
theorem d_M_init_229 : decode b_M_init 229 = .ok (.iinc 1 1, 3) := by decide +kernel
theorem d_M_init_232 : decode b_M_init 232 = .ok (.goto (-16), 3) := by decide +kernel
theorem d_M_init_235 : decode b_M_init 235 = .ok (.iconst 0, 1) := by decide +kernel
theorem d_M_init_236 : decode b_M_init 236 = .ok (.istore_n 1, 1) := by decide +kernel
theorem d_M_init_237 : decode b_M_init 237 = .ok (.iload_n 1, 1) := by decide +kernel
theorem d_M_init_238 : decode b_M_init 238 = .ok (.iconst 4, 1) := by decide +kernel
theorem d_M_init_239 : decode b_M_init 239 = .ok (.if_icmp .ge 16, 3) := by decide +kernel
theorem d_M_init_242 : decode b_M_init 242 = .ok (.aload_n 0, 1) := by decide +kernel
theorem d_M_init_243 : decode b_M_init 243 = .ok (.getfield 22, 3) := by decide +kernel
theorem d_M_init_246 : decode b_M_init 246 = .ok (.iload_n 1, 1) := by decide +kernel
theorem d_M_init_247 : decode b_M_init 247 = .ok (.iconst (-1), 1) := by decide +kernel
theorem d_M_init_248 : decode b_M_init 248 = .ok (.iastore, 1) := by decide +kernel
theorem d_M_init_249 : decode b_M_init 249 = .ok (.iinc 1 1, 3) := by decide +kernel
theorem d_M_init_252 : decode b_M_init 252 = .ok (.goto (-15), 3) := by decide +kernel
theorem d_M_init_255 : decode b_M_init 255 = .ok (.iconst 0, 1) := by decide +kernel
theorem d_M_init_256 : decode b_M_init 256 = .ok (.istore_n 1, 1) := by decide +kernel
theorem d_M_init_257 : decode b_M_init 257 = .ok (.iload_n 1, 1) := by decide +kernel
theorem d_M_init_258 : decode b_M_init 258 = .ok (.iconst 3, 1) := by decide +kernel
theorem d_M_init_259 : decode b_M_init 259 = .ok (.if_icmp .ge 16, 3) := by decide +kernel
theorem d_M_init_262 : decode b_M_init 262 = .ok (.aload_n 0, 1) := by decide +kernel
theorem d_M_init_263 : decode b_M_init 263 = .ok (.getfield 44, 3) := by decide +kernel
theorem d_M_init_266 : decode b_M_init 266 = .ok (.iload_n 1, 1) := by decide +kernel
theorem d_M_init_267 : decode b_M_init 267 = .ok (.iconst (-1), 1) := by decide +kernel
theorem d_M_init_268 : decode b_M_init 268 = .ok (.iastore, 1) := by decide +kernel
theorem d_M_init_269 : decode b_M_init 269 = .ok (.iinc 1 1, 3) := by decide +kernel
theorem d_M_init_272 : decode b_M_init 272 = .ok (.goto (-15), 3) := by decide +kernel
theorem d_M_init_275 : decode b_M_init 275 = .ok (.return_, 1) := by decide +kernel
theorem d_M_finding_0 : decode b_M_finding 0 = .ok (.aload_n 0, 1) := by decide +kernel
theorem d_M_finding_1 : decode b_M_finding 1 = .ok (.getfield 92, 3) := by decide +kernel
theorem d_M_finding_4 : decode b_M_finding 4 = .ok (.ireturn, 1) := by decide +kernel
theorem d_M_findings_0 : decode b_M_findings 0 = .ok (.iload_n 1, 1) := by decide +kernel
theorem d_M_findings_1 : decode b_M_findings 1 = .ok (.iconst 1, 1) := by decide +kernel
theorem d_M_findings_2 : decode b_M_findings 2 = .ok (.iconst 5, 1) := by decide +kernel
theorem d_M_findings_3 : decode b_M_findings 3 = .ok (.invokestatic 96, 3) := by decide +kernel
theorem d_M_findings_6 : decode b_M_findings 6 = .ok (.ifCond .eq 12, 3) := by decide +kernel
theorem d_M_findings_9 : decode b_M_findings 9 = .ok (.aload_n 0, 1) := by decide +kernel
theorem d_M_findings_10 : decode b_M_findings 10 = .ok (.getfield 7, 3) := by decide +kernel
theorem d_M_findings_13 : decode b_M_findings 13 = .ok (.iload_n 1, 1) := by decide +kernel
theorem d_M_findings_14 : decode b_M_findings 14 = .ok (.iaload, 1) := by decide +kernel
theorem d_M_findings_15 : decode b_M_findings 15 = .ok (.goto 4, 3) := by decide +kernel
theorem d_M_findings_18 : decode b_M_findings 18 = .ok (.iconst (-1), 1) := by decide +kernel
theorem d_M_findings_19 : decode b_M_findings 19 = .ok (.ireturn, 1) := by decide +kernel
theorem d_M_in_0 : decode b_M_in 0 = .ok (.iload_n 0, 1) := by decide +kernel
theorem d_M_in_1 : decode b_M_in 1 = .ok (.iload_n 1, 1) := by decide +kernel
theorem d_M_in_2 : decode b_M_in 2 = .ok (.if_icmp .lt 12, 3) := by decide +kernel
theorem d_M_in_5 : decode b_M_in 5 = .ok (.iload_n 0, 1) := by decide +kernel
theorem d_M_in_6 : decode b_M_in 6 = .ok (.iload_n 2, 1) := by decide +kernel
theorem d_M_in_7 : decode b_M_in 7 = .ok (.if_icmp .gt 7, 3) := by decide +kernel
theorem d_M_in_10 : decode b_M_in 10 = .ok (.iconst 1, 1) := by decide +kernel
theorem d_M_in_11 : decode b_M_in 11 = .ok (.goto 4, 3) := by decide +kernel
theorem d_M_in_14 : decode b_M_in 14 = .ok (.iconst 0, 1) := by decide +kernel
theorem d_M_in_15 : decode b_M_in 15 = .ok (.ireturn, 1) := by decide +kernel
theorem d_M_asked_0 : decode b_M_asked 0 = .ok (.aload_n 0, 1) := by decide +kernel
theorem d_M_asked_1 : decode b_M_asked 1 = .ok (.getfield 100, 3) := by decide +kernel
theorem d_M_asked_4 : decode b_M_asked 4 = .ok (.ireturn, 1) := by decide +kernel
theorem d_M_upper_0 : decode b_M_upper 0 = .ok (.aload_n 0, 1) := by decide +kernel
theorem d_M_upper_1 : decode b_M_upper 1 = .ok (.getfield 103, 3) := by decide +kernel
theorem d_M_upper_4 : decode b_M_upper 4 = .ok (.lreturn, 1) := by decide +kernel
theorem d_M_lower_0 : decode b_M_lower 0 = .ok (.aload_n 0, 1) := by decide +kernel
theorem d_M_lower_1 : decode b_M_lower 1 = .ok (.getfield 88, 3) := by decide +kernel
theorem d_M_lower_4 : decode b_M_lower 4 = .ok (.lreturn, 1) := by decide +kernel
theorem d_M_row_0 : decode b_M_row 0 = .ok (.iload_n 1, 1) := by decide +kernel
theorem d_M_row_1 : decode b_M_row 1 = .ok (.invokestatic 110, 3) := by decide +kernel
theorem d_M_row_4 : decode b_M_row 4 = .ok (.ifCond .eq 9, 3) := by decide +kernel
theorem d_M_row_7 : decode b_M_row 7 = .ok (.iload_n 2, 1) := by decide +kernel
theorem d_M_row_8 : decode b_M_row 8 = .ok (.bipush 60, 2) := by decide +kernel
theorem d_M_row_10 : decode b_M_row 10 = .ok (.if_icmp .le 5, 3) := by decide +kernel
theorem d_M_row_13 : decode b_M_row 13 = .ok (.iconst (-1), 1) := by decide +kernel
theorem d_M_row_14 : decode b_M_row 14 = .ok (.ireturn, 1) := by decide +kernel
theorem d_M_row_15 : decode b_M_row 15 = .ok (.iload_n 2, 1) := by decide +kernel
theorem d_M_row_16 : decode b_M_row 16 = .ok (.ifCond .ge 9, 3) := by decide +kernel
theorem d_M_row_19 : decode b_M_row 19 = .ok (.aload_n 0, 1) := by decide +kernel
theorem d_M_row_20 : decode b_M_row 20 = .ok (.iconst 5, 1) := by decide +kernel
theorem d_M_row_21 : decode b_M_row 21 = .ok (.invokevirtual 114, 3) := by decide +kernel
theorem d_M_row_24 : decode b_M_row 24 = .ok (.ireturn, 1) := by decide +kernel
theorem d_M_row_25 : decode b_M_row 25 = .ok (.aload_n 0, 1) := by decide +kernel
theorem d_M_row_26 : decode b_M_row 26 = .ok (.getfield 13, 3) := by decide +kernel
theorem d_M_row_29 : decode b_M_row 29 = .ok (.iload_n 1, 1) := by decide +kernel
theorem d_M_row_30 : decode b_M_row 30 = .ok (.iload_n 2, 1) := by decide +kernel
theorem d_M_row_31 : decode b_M_row 31 = .ok (.iastore, 1) := by decide +kernel
theorem d_M_row_32 : decode b_M_row 32 = .ok (.iconst 0, 1) := by decide +kernel
theorem d_M_row_33 : decode b_M_row 33 = .ok (.istore_n 3, 1) := by decide +kernel
theorem d_M_row_34 : decode b_M_row 34 = .ok (.iload_n 3, 1) := by decide +kernel
theorem d_M_row_35 : decode b_M_row 35 = .ok (.bipush 60, 2) := by decide +kernel
theorem d_M_row_37 : decode b_M_row 37 = .ok (.if_icmp .ge 21, 3) := by decide +kernel
theorem d_M_row_40 : decode b_M_row 40 = .ok (.aload_n 0, 1) := by decide +kernel
theorem d_M_row_41 : decode b_M_row 41 = .ok (.getfield 16, 3) := by decide +kernel
theorem d_M_row_44 : decode b_M_row 44 = .ok (.bipush 60, 2) := by decide +kernel
theorem d_M_row_46 : decode b_M_row 46 = .ok (.iload_n 1, 1) := by decide +kernel
theorem d_M_row_47 : decode b_M_row 47 = .ok (.imul, 1) := by decide +kernel
theorem d_M_row_48 : decode b_M_row 48 = .ok (.iload_n 3, 1) := by decide +kernel
theorem d_M_row_49 : decode b_M_row 49 = .ok (.iadd, 1) := by decide +kernel
theorem d_M_row_50 : decode b_M_row 50 = .ok (.iconst 0, 1) := by decide +kernel
theorem d_M_row_51 : decode b_M_row 51 = .ok (.iastore, 1) := by decide +kernel
theorem d_M_row_52 : decode b_M_row 52 = .ok (.iinc 3 1, 3) := by decide +kernel
theorem d_M_row_55 : decode b_M_row 55 = .ok (.goto (-21), 3) := by decide +kernel
theorem d_M_row_58 : decode b_M_row 58 = .ok (.iload_n 2, 1) := by decide +kernel
theorem d_M_row_59 : decode b_M_row 59 = .ok (.ireturn, 1) := by decide +kernel
theorem d_M_isRow_0 : decode b_M_isRow 0 = .ok (.iload_n 0, 1) := by decide +kernel
theorem d_M_isRow_1 : decode b_M_isRow 1 = .ok (.iconst 0, 1) := by decide +kernel
theorem d_M_isRow_2 : decode b_M_isRow 2 = .ok (.iconst 5, 1) := by decide +kernel
theorem d_M_isRow_3 : decode b_M_isRow 3 = .ok (.invokestatic 96, 3) := by decide +kernel
theorem d_M_isRow_6 : decode b_M_isRow 6 = .ok (.ireturn, 1) := by decide +kernel
theorem d_M_meets_0 : decode b_M_meets 0 = .ok (.aload_n 0, 1) := by decide +kernel
theorem d_M_meets_1 : decode b_M_meets 1 = .ok (.iload_n 1, 1) := by decide +kernel
theorem d_M_meets_2 : decode b_M_meets 2 = .ok (.putfield 92, 3) := by decide +kernel
theorem d_M_meets_5 : decode b_M_meets 5 = .ok (.aload_n 0, 1) := by decide +kernel
theorem d_M_meets_6 : decode b_M_meets 6 = .ok (.getfield 7, 3) := by decide +kernel
theorem d_M_meets_9 : decode b_M_meets 9 = .ok (.iload_n 1, 1) := by decide +kernel
theorem d_M_meets_10 : decode b_M_meets 10 = .ok (.dup2, 1) := by decide +kernel
theorem d_M_meets_11 : decode b_M_meets 11 = .ok (.iaload, 1) := by decide +kernel
theorem d_M_meets_12 : decode b_M_meets 12 = .ok (.iconst 1, 1) := by decide +kernel
theorem d_M_meets_13 : decode b_M_meets 13 = .ok (.iadd, 1) := by decide +kernel
theorem d_M_meets_14 : decode b_M_meets 14 = .ok (.iastore, 1) := by decide +kernel
theorem d_M_meets_15 : decode b_M_meets 15 = .ok (.bipush (-3), 2) := by decide +kernel
theorem d_M_meets_17 : decode b_M_meets 17 = .ok (.ireturn, 1) := by decide +kernel
theorem d_M_lay_0 : decode b_M_lay 0 = .ok (.iload_n 1, 1) := by decide +kernel
theorem d_M_lay_1 : decode b_M_lay 1 = .ok (.invokestatic 110, 3) := by decide +kernel
theorem d_M_lay_4 : decode b_M_lay 4 = .ok (.ifCond .ne 5, 3) := by decide +kernel
theorem d_M_lay_7 : decode b_M_lay 7 = .ok (.iconst (-1), 1) := by decide +kernel
theorem d_M_lay_8 : decode b_M_lay 8 = .ok (.ireturn, 1) := by decide +kernel
theorem d_M_lay_9 : decode b_M_lay 9 = .ok (.aload_n 0, 1) := by decide +kernel
theorem d_M_lay_10 : decode b_M_lay 10 = .ok (.getfield 13, 3) := by decide +kernel
theorem d_M_lay_13 : decode b_M_lay 13 = .ok (.iload_n 1, 1) := by decide +kernel
theorem d_M_lay_14 : decode b_M_lay 14 = .ok (.iaload, 1) := by decide +kernel
theorem d_M_lay_15 : decode b_M_lay 15 = .ok (.ifCond .ge 9, 3) := by decide +kernel
theorem d_M_lay_18 : decode b_M_lay 18 = .ok (.aload_n 0, 1) := by decide +kernel
theorem d_M_lay_19 : decode b_M_lay 19 = .ok (.iconst 1, 1) := by decide +kernel
theorem d_M_lay_20 : decode b_M_lay 20 = .ok (.invokevirtual 114, 3) := by decide +kernel
theorem d_M_lay_23 : decode b_M_lay 23 = .ok (.ireturn, 1) := by decide +kernel
theorem d_M_lay_24 : decode b_M_lay 24 = .ok (.iload_n 2, 1) := by decide +kernel
theorem d_M_lay_25 : decode b_M_lay 25 = .ok (.iconst 0, 1) := by decide +kernel
theorem d_M_lay_26 : decode b_M_lay 26 = .ok (.aload_n 0, 1) := by decide +kernel
theorem d_M_lay_27 : decode b_M_lay 27 = .ok (.getfield 13, 3) := by decide +kernel
theorem d_M_lay_30 : decode b_M_lay 30 = .ok (.iload_n 1, 1) := by decide +kernel
theorem d_M_lay_31 : decode b_M_lay 31 = .ok (.iaload, 1) := by decide +kernel
theorem d_M_lay_32 : decode b_M_lay 32 = .ok (.iconst 1, 1) := by decide +kernel
theorem d_M_lay_33 : decode b_M_lay 33 = .ok (.isub, 1) := by decide +kernel
theorem d_M_lay_34 : decode b_M_lay 34 = .ok (.invokestatic 96, 3) := by decide +kernel
theorem d_M_lay_37 : decode b_M_lay 37 = .ok (.ifCond .ne 9, 3) := by decide +kernel
theorem d_M_lay_40 : decode b_M_lay 40 = .ok (.aload_n 0, 1) := by decide +kernel
theorem d_M_lay_41 : decode b_M_lay 41 = .ok (.iconst 2, 1) := by decide +kernel
theorem d_M_lay_42 : decode b_M_lay 42 = .ok (.invokevirtual 114, 3) := by decide +kernel
theorem d_M_lay_45 : decode b_M_lay 45 = .ok (.ireturn, 1) := by decide +kernel
theorem d_M_lay_46 : decode b_M_lay 46 = .ok (.aload_n 0, 1) := by decide +kernel
theorem d_M_lay_47 : decode b_M_lay 47 = .ok (.iload_n 1, 1) := by decide +kernel
theorem d_M_lay_48 : decode b_M_lay 48 = .ok (.iload_n 2, 1) := by decide +kernel
theorem d_M_lay_49 : decode b_M_lay 49 = .ok (.invokevirtual 118, 3) := by decide +kernel
theorem d_M_lay_52 : decode b_M_lay 52 = .ok (.istore 4, 2) := by decide +kernel
theorem d_M_lay_54 : decode b_M_lay 54 = .ok (.aload_n 0, 1) := by decide +kernel
theorem d_M_lay_55 : decode b_M_lay 55 = .ok (.getfield 16, 3) := by decide +kernel
theorem d_M_lay_58 : decode b_M_lay 58 = .ok (.bipush 60, 2) := by decide +kernel
theorem d_M_lay_60 : decode b_M_lay 60 = .ok (.iload_n 1, 1) := by decide +kernel
theorem d_M_lay_61 : decode b_M_lay 61 = .ok (.imul, 1) := by decide +kernel
theorem d_M_lay_62 : decode b_M_lay 62 = .ok (.iload_n 2, 1) := by decide +kernel
theorem d_M_lay_63 : decode b_M_lay 63 = .ok (.iadd, 1) := by decide +kernel
theorem d_M_lay_64 : decode b_M_lay 64 = .ok (.iload_n 3, 1) := by decide +kernel
theorem d_M_lay_65 : decode b_M_lay 65 = .ok (.iastore, 1) := by decide +kernel
theorem d_M_lay_66 : decode b_M_lay 66 = .ok (.aload_n 0, 1) := by decide +kernel
theorem d_M_lay_67 : decode b_M_lay 67 = .ok (.iload 4, 2) := by decide +kernel
theorem d_M_lay_69 : decode b_M_lay 69 = .ok (.iconst 1, 1) := by decide +kernel
theorem d_M_lay_70 : decode b_M_lay 70 = .ok (.invokevirtual 121, 3) := by decide +kernel
theorem d_M_lay_73 : decode b_M_lay 73 = .ok (.ireturn, 1) := by decide +kernel
theorem d_M_rowAt_0 : decode b_M_rowAt 0 = .ok (.aload_n 0, 1) := by decide +kernel
theorem d_M_rowAt_1 : decode b_M_rowAt 1 = .ok (.getfield 16, 3) := by decide +kernel
theorem d_M_rowAt_4 : decode b_M_rowAt 4 = .ok (.bipush 60, 2) := by decide +kernel
theorem d_M_rowAt_6 : decode b_M_rowAt 6 = .ok (.iload_n 1, 1) := by decide +kernel
theorem d_M_rowAt_7 : decode b_M_rowAt 7 = .ok (.imul, 1) := by decide +kernel
theorem d_M_rowAt_8 : decode b_M_rowAt 8 = .ok (.iload_n 2, 1) := by decide +kernel
theorem d_M_rowAt_9 : decode b_M_rowAt 9 = .ok (.iadd, 1) := by decide +kernel
theorem d_M_rowAt_10 : decode b_M_rowAt 10 = .ok (.iaload, 1) := by decide +kernel
theorem d_M_rowAt_11 : decode b_M_rowAt 11 = .ok (.ireturn, 1) := by decide +kernel
theorem d_M_tells_0 : decode b_M_tells 0 = .ok (.aload_n 0, 1) := by decide +kernel
theorem d_M_tells_1 : decode b_M_tells 1 = .ok (.iload_n 1, 1) := by decide +kernel
theorem d_M_tells_2 : decode b_M_tells 2 = .ok (.putfield 100, 3) := by decide +kernel
theorem d_M_tells_5 : decode b_M_tells 5 = .ok (.iload_n 2, 1) := by decide +kernel
theorem d_M_tells_6 : decode b_M_tells 6 = .ok (.ireturn, 1) := by decide +kernel
theorem d_M_at_0 : decode b_M_at 0 = .ok (.iload_n 1, 1) := by decide +kernel
theorem d_M_at_1 : decode b_M_at 1 = .ok (.invokestatic 110, 3) := by decide +kernel
theorem d_M_at_4 : decode b_M_at 4 = .ok (.ifCond .ne 5, 3) := by decide +kernel
theorem d_M_at_7 : decode b_M_at 7 = .ok (.iconst (-1), 1) := by decide +kernel
theorem d_M_at_8 : decode b_M_at 8 = .ok (.ireturn, 1) := by decide +kernel
theorem d_M_at_9 : decode b_M_at 9 = .ok (.aload_n 0, 1) := by decide +kernel
theorem d_M_at_10 : decode b_M_at 10 = .ok (.getfield 13, 3) := by decide +kernel
theorem d_M_at_13 : decode b_M_at 13 = .ok (.iload_n 1, 1) := by decide +kernel
theorem d_M_at_14 : decode b_M_at 14 = .ok (.iaload, 1) := by decide +kernel
theorem d_M_at_15 : decode b_M_at 15 = .ok (.ifCond .ge 9, 3) := by decide +kernel
theorem d_M_at_18 : decode b_M_at 18 = .ok (.aload_n 0, 1) := by decide +kernel
theorem d_M_at_19 : decode b_M_at 19 = .ok (.iconst 1, 1) := by decide +kernel
theorem d_M_at_20 : decode b_M_at 20 = .ok (.invokevirtual 114, 3) := by decide +kernel
theorem d_M_at_23 : decode b_M_at 23 = .ok (.ireturn, 1) := by decide +kernel
theorem d_M_at_24 : decode b_M_at 24 = .ok (.iload_n 2, 1) := by decide +kernel
theorem d_M_at_25 : decode b_M_at 25 = .ok (.iconst 0, 1) := by decide +kernel
theorem d_M_at_26 : decode b_M_at 26 = .ok (.aload_n 0, 1) := by decide +kernel
theorem d_M_at_27 : decode b_M_at 27 = .ok (.getfield 13, 3) := by decide +kernel
theorem d_M_at_30 : decode b_M_at 30 = .ok (.iload_n 1, 1) := by decide +kernel
theorem d_M_at_31 : decode b_M_at 31 = .ok (.iaload, 1) := by decide +kernel
theorem d_M_at_32 : decode b_M_at 32 = .ok (.iconst 1, 1) := by decide +kernel
theorem d_M_at_33 : decode b_M_at 33 = .ok (.isub, 1) := by decide +kernel
theorem d_M_at_34 : decode b_M_at 34 = .ok (.invokestatic 96, 3) := by decide +kernel
theorem d_M_at_37 : decode b_M_at 37 = .ok (.ifCond .eq 17, 3) := by decide +kernel
theorem d_M_at_40 : decode b_M_at 40 = .ok (.aload_n 0, 1) := by decide +kernel
theorem d_M_at_41 : decode b_M_at 41 = .ok (.aload_n 0, 1) := by decide +kernel
theorem d_M_at_42 : decode b_M_at 42 = .ok (.iload_n 1, 1) := by decide +kernel
theorem d_M_at_43 : decode b_M_at 43 = .ok (.iload_n 2, 1) := by decide +kernel
theorem d_M_at_44 : decode b_M_at 44 = .ok (.invokevirtual 118, 3) := by decide +kernel
theorem d_M_at_47 : decode b_M_at 47 = .ok (.iconst 1, 1) := by decide +kernel
theorem d_M_at_48 : decode b_M_at 48 = .ok (.invokevirtual 121, 3) := by decide +kernel
theorem d_M_at_51 : decode b_M_at 51 = .ok (.goto 8, 3) := by decide +kernel
theorem d_M_at_54 : decode b_M_at 54 = .ok (.aload_n 0, 1) := by decide +kernel
theorem d_M_at_55 : decode b_M_at 55 = .ok (.iconst 2, 1) := by decide +kernel
theorem d_M_at_56 : decode b_M_at 56 = .ok (.invokevirtual 114, 3) := by decide +kernel
theorem d_M_at_59 : decode b_M_at 59 = .ok (.ireturn, 1) := by decide +kernel
theorem d_M_tear_0 : decode b_M_tear 0 = .ok (.iload_n 1, 1) := by decide +kernel
theorem d_M_tear_1 : decode b_M_tear 1 = .ok (.invokestatic 110, 3) := by decide +kernel
theorem d_M_tear_4 : decode b_M_tear 4 = .ok (.ifCond .ne 5, 3) := by decide +kernel
theorem d_M_tear_7 : decode b_M_tear 7 = .ok (.iconst (-1), 1) := by decide +kernel
theorem d_M_tear_8 : decode b_M_tear 8 = .ok (.ireturn, 1) := by decide +kernel
theorem d_M_tear_9 : decode b_M_tear 9 = .ok (.aload_n 0, 1) := by decide +kernel
theorem d_M_tear_10 : decode b_M_tear 10 = .ok (.getfield 13, 3) := by decide +kernel
theorem d_M_tear_13 : decode b_M_tear 13 = .ok (.iload_n 1, 1) := by decide +kernel
theorem d_M_tear_14 : decode b_M_tear 14 = .ok (.iaload, 1) := by decide +kernel
theorem d_M_tear_15 : decode b_M_tear 15 = .ok (.ifCond .ge 9, 3) := by decide +kernel
theorem d_M_tear_18 : decode b_M_tear 18 = .ok (.aload_n 0, 1) := by decide +kernel
theorem d_M_tear_19 : decode b_M_tear 19 = .ok (.iconst 1, 1) := by decide +kernel
theorem d_M_tear_20 : decode b_M_tear 20 = .ok (.invokevirtual 114, 3) := by decide +kernel
theorem d_M_tear_23 : decode b_M_tear 23 = .ok (.ireturn, 1) := by decide +kernel
theorem d_M_tear_24 : decode b_M_tear 24 = .ok (.aload_n 0, 1) := by decide +kernel
theorem d_M_tear_25 : decode b_M_tear 25 = .ok (.getfield 13, 3) := by decide +kernel
theorem d_M_tear_28 : decode b_M_tear 28 = .ok (.iload_n 1, 1) := by decide +kernel
theorem d_M_tear_29 : decode b_M_tear 29 = .ok (.iconst (-1), 1) := by decide +kernel
theorem d_M_tear_30 : decode b_M_tear 30 = .ok (.iastore, 1) := by decide +kernel
theorem d_M_tear_31 : decode b_M_tear 31 = .ok (.iconst 1, 1) := by decide +kernel
theorem d_M_tear_32 : decode b_M_tear 32 = .ok (.ireturn, 1) := by decide +kernel
theorem d_M_copy_0 : decode b_M_copy 0 = .ok (.iload_n 1, 1) := by decide +kernel
theorem d_M_copy_1 : decode b_M_copy 1 = .ok (.invokestatic 110, 3) := by decide +kernel
theorem d_M_copy_4 : decode b_M_copy 4 = .ok (.ifCond .eq 10, 3) := by decide +kernel
theorem d_M_copy_7 : decode b_M_copy 7 = .ok (.iload_n 3, 1) := by decide +kernel
theorem d_M_copy_8 : decode b_M_copy 8 = .ok (.invokestatic 110, 3) := by decide +kernel
theorem d_M_copy_11 : decode b_M_copy 11 = .ok (.ifCond .ne 5, 3) := by decide +kernel
theorem d_M_copy_14 : decode b_M_copy 14 = .ok (.iconst (-1), 1) := by decide +kernel
theorem d_M_copy_15 : decode b_M_copy 15 = .ok (.ireturn, 1) := by decide +kernel
theorem d_M_copy_16 : decode b_M_copy 16 = .ok (.iload 5, 2) := by decide +kernel
theorem d_M_copy_18 : decode b_M_copy 18 = .ok (.ifCond .ge 9, 3) := by decide +kernel
theorem d_M_copy_21 : decode b_M_copy 21 = .ok (.aload_n 0, 1) := by decide +kernel
theorem d_M_copy_22 : decode b_M_copy 22 = .ok (.iconst 5, 1) := by decide +kernel
theorem d_M_copy_23 : decode b_M_copy 23 = .ok (.invokevirtual 114, 3) := by decide +kernel
theorem d_M_copy_26 : decode b_M_copy 26 = .ok (.ireturn, 1) := by decide +kernel
theorem d_M_copy_27 : decode b_M_copy 27 = .ok (.aload_n 0, 1) := by decide +kernel
theorem d_M_copy_28 : decode b_M_copy 28 = .ok (.getfield 13, 3) := by decide +kernel
theorem d_M_copy_31 : decode b_M_copy 31 = .ok (.iload_n 1, 1) := by decide +kernel
theorem d_M_copy_32 : decode b_M_copy 32 = .ok (.iaload, 1) := by decide +kernel
theorem d_M_copy_33 : decode b_M_copy 33 = .ok (.ifCond .lt 12, 3) := by decide +kernel
theorem d_M_copy_36 : decode b_M_copy 36 = .ok (.aload_n 0, 1) := by decide +kernel
theorem d_M_copy_37 : decode b_M_copy 37 = .ok (.getfield 13, 3) := by decide +kernel
theorem d_M_copy_40 : decode b_M_copy 40 = .ok (.iload_n 3, 1) := by decide +kernel
theorem d_M_copy_41 : decode b_M_copy 41 = .ok (.iaload, 1) := by decide +kernel
theorem d_M_copy_42 : decode b_M_copy 42 = .ok (.ifCond .ge 9, 3) := by decide +kernel
theorem d_M_copy_45 : decode b_M_copy 45 = .ok (.aload_n 0, 1) := by decide +kernel
theorem d_M_copy_46 : decode b_M_copy 46 = .ok (.iconst 1, 1) := by decide +kernel
theorem d_M_copy_47 : decode b_M_copy 47 = .ok (.invokevirtual 114, 3) := by decide +kernel
theorem d_M_copy_50 : decode b_M_copy 50 = .ok (.ireturn, 1) := by decide +kernel
theorem d_M_copy_51 : decode b_M_copy 51 = .ok (.iload_n 2, 1) := by decide +kernel
theorem d_M_copy_52 : decode b_M_copy 52 = .ok (.ifCond .lt 43, 3) := by decide +kernel
theorem d_M_copy_55 : decode b_M_copy 55 = .ok (.iload 4, 2) := by decide +kernel
theorem d_M_copy_57 : decode b_M_copy 57 = .ok (.ifCond .lt 38, 3) := by decide +kernel
theorem d_M_copy_60 : decode b_M_copy 60 = .ok (.iload_n 2, 1) := by decide +kernel
theorem d_M_copy_61 : decode b_M_copy 61 = .ok (.i2l, 1) := by decide +kernel
theorem d_M_copy_62 : decode b_M_copy 62 = .ok (.iload 5, 2) := by decide +kernel
theorem d_M_copy_64 : decode b_M_copy 64 = .ok (.i2l, 1) := by decide +kernel
theorem d_M_copy_65 : decode b_M_copy 65 = .ok (.ladd, 1) := by decide +kernel
theorem d_M_copy_66 : decode b_M_copy 66 = .ok (.aload_n 0, 1) := by decide +kernel
theorem d_M_copy_67 : decode b_M_copy 67 = .ok (.getfield 13, 3) := by decide +kernel
theorem d_M_copy_70 : decode b_M_copy 70 = .ok (.iload_n 1, 1) := by decide +kernel
theorem d_M_copy_71 : decode b_M_copy 71 = .ok (.iaload, 1) := by decide +kernel
theorem d_M_copy_72 : decode b_M_copy 72 = .ok (.i2l, 1) := by decide +kernel
theorem d_M_copy_73 : decode b_M_copy 73 = .ok (.lcmp, 1) := by decide +kernel
theorem d_M_copy_74 : decode b_M_copy 74 = .ok (.ifCond .gt 21, 3) := by decide +kernel
theorem d_M_copy_77 : decode b_M_copy 77 = .ok (.iload 4, 2) := by decide +kernel
theorem d_M_copy_79 : decode b_M_copy 79 = .ok (.i2l, 1) := by decide +kernel
theorem d_M_copy_80 : decode b_M_copy 80 = .ok (.iload 5, 2) := by decide +kernel
theorem d_M_copy_82 : decode b_M_copy 82 = .ok (.i2l, 1) := by decide +kernel
theorem d_M_copy_83 : decode b_M_copy 83 = .ok (.ladd, 1) := by decide +kernel
theorem d_M_copy_84 : decode b_M_copy 84 = .ok (.aload_n 0, 1) := by decide +kernel
theorem d_M_copy_85 : decode b_M_copy 85 = .ok (.getfield 13, 3) := by decide +kernel
theorem d_M_copy_88 : decode b_M_copy 88 = .ok (.iload_n 3, 1) := by decide +kernel
theorem d_M_copy_89 : decode b_M_copy 89 = .ok (.iaload, 1) := by decide +kernel
theorem d_M_copy_90 : decode b_M_copy 90 = .ok (.i2l, 1) := by decide +kernel
theorem d_M_copy_91 : decode b_M_copy 91 = .ok (.lcmp, 1) := by decide +kernel
theorem d_M_copy_92 : decode b_M_copy 92 = .ok (.ifCond .le 9, 3) := by decide +kernel
theorem d_M_copy_95 : decode b_M_copy 95 = .ok (.aload_n 0, 1) := by decide +kernel
theorem d_M_copy_96 : decode b_M_copy 96 = .ok (.iconst 2, 1) := by decide +kernel
theorem d_M_copy_97 : decode b_M_copy 97 = .ok (.invokevirtual 114, 3) := by decide +kernel
theorem d_M_copy_100 : decode b_M_copy 100 = .ok (.ireturn, 1) := by decide +kernel
theorem d_M_copy_101 : decode b_M_copy 101 = .ok (.iconst 0, 1) := by decide +kernel
theorem d_M_copy_102 : decode b_M_copy 102 = .ok (.istore 6, 2) := by decide +kernel
theorem d_M_copy_104 : decode b_M_copy 104 = .ok (.iload 6, 2) := by decide +kernel
theorem d_M_copy_106 : decode b_M_copy 106 = .ok (.iload 5, 2) := by decide +kernel
theorem d_M_copy_108 : decode b_M_copy 108 = .ok (.if_icmp .ge 25, 3) := by decide +kernel
theorem d_M_copy_111 : decode b_M_copy 111 = .ok (.aload_n 0, 1) := by decide +kernel
theorem d_M_copy_112 : decode b_M_copy 112 = .ok (.getfield 19, 3) := by decide +kernel
theorem d_M_copy_115 : decode b_M_copy 115 = .ok (.iload 6, 2) := by decide +kernel
theorem d_M_copy_117 : decode b_M_copy 117 = .ok (.aload_n 0, 1) := by decide +kernel
theorem d_M_copy_118 : decode b_M_copy 118 = .ok (.iload_n 1, 1) := by decide +kernel
theorem d_M_copy_119 : decode b_M_copy 119 = .ok (.iload_n 2, 1) := by decide +kernel
theorem d_M_copy_120 : decode b_M_copy 120 = .ok (.iload 6, 2) := by decide +kernel
theorem d_M_copy_122 : decode b_M_copy 122 = .ok (.iadd, 1) := by decide +kernel
theorem d_M_copy_123 : decode b_M_copy 123 = .ok (.invokevirtual 118, 3) := by decide +kernel
theorem d_M_copy_126 : decode b_M_copy 126 = .ok (.iastore, 1) := by decide +kernel
theorem d_M_copy_127 : decode b_M_copy 127 = .ok (.iinc 6 1, 3) := by decide +kernel
theorem d_M_copy_130 : decode b_M_copy 130 = .ok (.goto (-26), 3) := by decide +kernel
theorem d_M_copy_133 : decode b_M_copy 133 = .ok (.iconst 0, 1) := by decide +kernel
theorem d_M_copy_134 : decode b_M_copy 134 = .ok (.istore 6, 2) := by decide +kernel
theorem d_M_copy_136 : decode b_M_copy 136 = .ok (.iload 6, 2) := by decide +kernel
theorem d_M_copy_138 : decode b_M_copy 138 = .ok (.iload 5, 2) := by decide +kernel
theorem d_M_copy_140 : decode b_M_copy 140 = .ok (.if_icmp .ge 31, 3) := by decide +kernel
theorem d_M_copy_143 : decode b_M_copy 143 = .ok (.aload_n 0, 1) := by decide +kernel
theorem d_M_copy_144 : decode b_M_copy 144 = .ok (.getfield 16, 3) := by decide +kernel
theorem d_M_copy_147 : decode b_M_copy 147 = .ok (.bipush 60, 2) := by decide +kernel
theorem d_M_copy_149 : decode b_M_copy 149 = .ok (.iload_n 3, 1) := by decide +kernel
theorem d_M_copy_150 : decode b_M_copy 150 = .ok (.imul, 1) := by decide +kernel
theorem d_M_copy_151 : decode b_M_copy 151 = .ok (.iload 4, 2) := by decide +kernel
theorem d_M_copy_153 : decode b_M_copy 153 = .ok (.iadd, 1) := by decide +kernel
theorem d_M_copy_154 : decode b_M_copy 154 = .ok (.iload 6, 2) := by decide +kernel
theorem d_M_copy_156 : decode b_M_copy 156 = .ok (.iadd, 1) := by decide +kernel
theorem d_M_copy_157 : decode b_M_copy 157 = .ok (.aload_n 0, 1) := by decide +kernel
theorem d_M_copy_158 : decode b_M_copy 158 = .ok (.getfield 19, 3) := by decide +kernel
theorem d_M_copy_161 : decode b_M_copy 161 = .ok (.iload 6, 2) := by decide +kernel
theorem d_M_copy_163 : decode b_M_copy 163 = .ok (.iaload, 1) := by decide +kernel
theorem d_M_copy_164 : decode b_M_copy 164 = .ok (.iastore, 1) := by decide +kernel
theorem d_M_copy_165 : decode b_M_copy 165 = .ok (.iinc 6 1, 3) := by decide +kernel
theorem d_M_copy_168 : decode b_M_copy 168 = .ok (.goto (-32), 3) := by decide +kernel
theorem d_M_copy_171 : decode b_M_copy 171 = .ok (.iconst 1, 1) := by decide +kernel
theorem d_M_copy_172 : decode b_M_copy 172 = .ok (.ireturn, 1) := by decide +kernel
theorem d_M_mean_0 : decode b_M_mean 0 = .ok (.iload_n 1, 1) := by decide +kernel
theorem d_M_mean_1 : decode b_M_mean 1 = .ok (.invokestatic 110, 3) := by decide +kernel
theorem d_M_mean_4 : decode b_M_mean 4 = .ok (.ifCond .ne 5, 3) := by decide +kernel
theorem d_M_mean_7 : decode b_M_mean 7 = .ok (.iconst (-1), 1) := by decide +kernel
theorem d_M_mean_8 : decode b_M_mean 8 = .ok (.ireturn, 1) := by decide +kernel
theorem d_M_mean_9 : decode b_M_mean 9 = .ok (.aload_n 0, 1) := by decide +kernel
theorem d_M_mean_10 : decode b_M_mean 10 = .ok (.getfield 13, 3) := by decide +kernel
theorem d_M_mean_13 : decode b_M_mean 13 = .ok (.iload_n 1, 1) := by decide +kernel
theorem d_M_mean_14 : decode b_M_mean 14 = .ok (.iaload, 1) := by decide +kernel
theorem d_M_mean_15 : decode b_M_mean 15 = .ok (.ifCond .ge 9, 3) := by decide +kernel
theorem d_M_mean_18 : decode b_M_mean 18 = .ok (.aload_n 0, 1) := by decide +kernel
theorem d_M_mean_19 : decode b_M_mean 19 = .ok (.iconst 1, 1) := by decide +kernel
theorem d_M_mean_20 : decode b_M_mean 20 = .ok (.invokevirtual 114, 3) := by decide +kernel
theorem d_M_mean_23 : decode b_M_mean 23 = .ok (.ireturn, 1) := by decide +kernel
theorem d_M_mean_24 : decode b_M_mean 24 = .ok (.aload_n 0, 1) := by decide +kernel
theorem d_M_mean_25 : decode b_M_mean 25 = .ok (.getfield 13, 3) := by decide +kernel
theorem d_M_mean_28 : decode b_M_mean 28 = .ok (.iload_n 1, 1) := by decide +kernel
theorem d_M_mean_29 : decode b_M_mean 29 = .ok (.iaload, 1) := by decide +kernel
theorem d_M_mean_30 : decode b_M_mean 30 = .ok (.ifCond .ne 9, 3) := by decide +kernel
theorem d_M_mean_33 : decode b_M_mean 33 = .ok (.aload_n 0, 1) := by decide +kernel
theorem d_M_mean_34 : decode b_M_mean 34 = .ok (.iconst 4, 1) := by decide +kernel
theorem d_M_mean_35 : decode b_M_mean 35 = .ok (.invokevirtual 114, 3) := by decide +kernel
theorem d_M_mean_38 : decode b_M_mean 38 = .ok (.ireturn, 1) := by decide +kernel
theorem d_M_mean_39 : decode b_M_mean 39 = .ok (.lconst 0, 1) := by decide +kernel
theorem d_M_mean_40 : decode b_M_mean 40 = .ok (.lstore_n 2, 1) := by decide +kernel
theorem d_M_mean_41 : decode b_M_mean 41 = .ok (.iconst 0, 1) := by decide +kernel
theorem d_M_mean_42 : decode b_M_mean 42 = .ok (.istore 4, 2) := by decide +kernel
theorem d_M_mean_44 : decode b_M_mean 44 = .ok (.iload 4, 2) := by decide +kernel
theorem d_M_mean_46 : decode b_M_mean 46 = .ok (.aload_n 0, 1) := by decide +kernel
theorem d_M_mean_47 : decode b_M_mean 47 = .ok (.getfield 13, 3) := by decide +kernel
theorem d_M_mean_50 : decode b_M_mean 50 = .ok (.iload_n 1, 1) := by decide +kernel
theorem d_M_mean_51 : decode b_M_mean 51 = .ok (.iaload, 1) := by decide +kernel
theorem d_M_mean_52 : decode b_M_mean 52 = .ok (.if_icmp .ge 20, 3) := by decide +kernel
theorem d_M_mean_55 : decode b_M_mean 55 = .ok (.lload_n 2, 1) := by decide +kernel
theorem d_M_mean_56 : decode b_M_mean 56 = .ok (.aload_n 0, 1) := by decide +kernel
theorem d_M_mean_57 : decode b_M_mean 57 = .ok (.iload_n 1, 1) := by decide +kernel
theorem d_M_mean_58 : decode b_M_mean 58 = .ok (.iload 4, 2) := by decide +kernel
theorem d_M_mean_60 : decode b_M_mean 60 = .ok (.invokevirtual 118, 3) := by decide +kernel
theorem d_M_mean_63 : decode b_M_mean 63 = .ok (.i2l, 1) := by decide +kernel
theorem d_M_mean_64 : decode b_M_mean 64 = .ok (.ladd, 1) := by decide +kernel
theorem d_M_mean_65 : decode b_M_mean 65 = .ok (.lstore_n 2, 1) := by decide +kernel
theorem d_M_mean_66 : decode b_M_mean 66 = .ok (.iinc 4 1, 3) := by decide +kernel
