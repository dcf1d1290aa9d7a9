theorem d_So_gapsBehind_24 : decode b_So_gapsBehind 24 = .ok (.iload_n 2, 1) := by decide +kernel
theorem d_So_gapsBehind_25 : decode b_So_gapsBehind 25 = .ok (.iload_n 1, 1) := by decide +kernel
theorem d_So_gapsBehind_26 : decode b_So_gapsBehind 26 = .ok (.ishl, 1) := by decide +kernel
theorem d_So_gapsBehind_27 : decode b_So_gapsBehind 27 = .ok (.ldc 66, 2) := by decide +kernel
theorem d_So_gapsBehind_29 : decode b_So_gapsBehind 29 = .ok (.iand, 1) := by decide +kernel
theorem d_So_gapsBehind_30 : decode b_So_gapsBehind 30 = .ok (.ior, 1) := by decide +kernel
theorem d_So_gapsBehind_31 : decode b_So_gapsBehind 31 = .ok (.istore_n 2, 1) := by decide +kernel
theorem d_So_gapsBehind_32 : decode b_So_gapsBehind 32 = .ok (.iinc 3 1, 3) := by decide +kernel
theorem d_So_gapsBehind_35 : decode b_So_gapsBehind 35 = .ok (.goto (-26), 3) := by decide +kernel
theorem d_So_gapsBehind_38 : decode b_So_gapsBehind 38 = .ok (.iload_n 2, 1) := by decide +kernel
theorem d_So_gapsBehind_39 : decode b_So_gapsBehind 39 = .ok (.iconst (-1), 1) := by decide +kernel
theorem d_So_gapsBehind_40 : decode b_So_gapsBehind 40 = .ok (.ixor, 1) := by decide +kernel
theorem d_So_gapsBehind_41 : decode b_So_gapsBehind 41 = .ok (.ldc 66, 2) := by decide +kernel
theorem d_So_gapsBehind_43 : decode b_So_gapsBehind 43 = .ok (.iand, 1) := by decide +kernel
theorem d_So_gapsBehind_44 : decode b_So_gapsBehind 44 = .ok (.ireturn, 1) := by decide +kernel
theorem d_So_solved_0 : decode b_So_solved 0 = .ok (.iload_n 1, 1) := by decide +kernel
theorem d_So_solved_1 : decode b_So_solved 1 = .ok (.iconst 2, 1) := by decide +kernel
theorem d_So_solved_2 : decode b_So_solved 2 = .ok (.if_icmp .le 9, 3) := by decide +kernel
theorem d_So_solved_5 : decode b_So_solved 5 = .ok (.iload_n 2, 1) := by decide +kernel
theorem d_So_solved_6 : decode b_So_solved 6 = .ok (.bipush 14, 2) := by decide +kernel
theorem d_So_solved_8 : decode b_So_solved 8 = .ok (.if_icmp .le 14, 3) := by decide +kernel
theorem d_So_solved_11 : decode b_So_solved 11 = .ok (.iload_n 1, 1) := by decide +kernel
theorem d_So_solved_12 : decode b_So_solved 12 = .ok (.iconst 2, 1) := by decide +kernel
theorem d_So_solved_13 : decode b_So_solved 13 = .ok (.if_icmp .ne 7, 3) := by decide +kernel
theorem d_So_solved_16 : decode b_So_solved 16 = .ok (.iconst 2, 1) := by decide +kernel
theorem d_So_solved_17 : decode b_So_solved 17 = .ok (.goto 4, 3) := by decide +kernel
theorem d_So_solved_20 : decode b_So_solved 20 = .ok (.iconst 0, 1) := by decide +kernel
theorem d_So_solved_21 : decode b_So_solved 21 = .ok (.ireturn, 1) := by decide +kernel
theorem d_So_solved_22 : decode b_So_solved 22 = .ok (.aload_n 0, 1) := by decide +kernel
theorem d_So_solved_23 : decode b_So_solved 23 = .ok (.iload_n 1, 1) := by decide +kernel
theorem d_So_solved_24 : decode b_So_solved 24 = .ok (.invokevirtual 67, 3) := by decide +kernel
theorem d_So_solved_27 : decode b_So_solved 27 = .ok (.istore_n 3, 1) := by decide +kernel
theorem d_So_solved_28 : decode b_So_solved 28 = .ok (.iload_n 3, 1) := by decide +kernel
theorem d_So_solved_29 : decode b_So_solved 29 = .ok (.ifCond .lt 20, 3) := by decide +kernel
theorem d_So_solved_32 : decode b_So_solved 32 = .ok (.aload_n 0, 1) := by decide +kernel
theorem d_So_solved_33 : decode b_So_solved 33 = .ok (.getfield 11, 3) := by decide +kernel
theorem d_So_solved_36 : decode b_So_solved 36 = .ok (.iload_n 3, 1) := by decide +kernel
theorem d_So_solved_37 : decode b_So_solved 37 = .ok (.iaload, 1) := by decide +kernel
theorem d_So_solved_38 : decode b_So_solved 38 = .ok (.iload_n 1, 1) := by decide +kernel
theorem d_So_solved_39 : decode b_So_solved 39 = .ok (.if_icmp .ne 10, 3) := by decide +kernel
theorem d_So_solved_42 : decode b_So_solved 42 = .ok (.aload_n 0, 1) := by decide +kernel
theorem d_So_solved_43 : decode b_So_solved 43 = .ok (.getfield 15, 3) := by decide +kernel
theorem d_So_solved_46 : decode b_So_solved 46 = .ok (.iload_n 3, 1) := by decide +kernel
theorem d_So_solved_47 : decode b_So_solved 47 = .ok (.iaload, 1) := by decide +kernel
theorem d_So_solved_48 : decode b_So_solved 48 = .ok (.ireturn, 1) := by decide +kernel
theorem d_So_solved_49 : decode b_So_solved 49 = .ok (.bipush 14, 2) := by decide +kernel
theorem d_So_solved_51 : decode b_So_solved 51 = .ok (.istore 4, 2) := by decide +kernel
theorem d_So_solved_53 : decode b_So_solved 53 = .ok (.iconst 0, 1) := by decide +kernel
theorem d_So_solved_54 : decode b_So_solved 54 = .ok (.istore 5, 2) := by decide +kernel
theorem d_So_solved_56 : decode b_So_solved 56 = .ok (.iconst 2, 1) := by decide +kernel
theorem d_So_solved_57 : decode b_So_solved 57 = .ok (.istore 6, 2) := by decide +kernel
theorem d_So_solved_59 : decode b_So_solved 59 = .ok (.iload 6, 2) := by decide +kernel
theorem d_So_solved_61 : decode b_So_solved 61 = .ok (.bipush 28, 2) := by decide +kernel
theorem d_So_solved_63 : decode b_So_solved 63 = .ok (.if_icmp .ge 63, 3) := by decide +kernel
theorem d_So_solved_66 : decode b_So_solved 66 = .ok (.iload_n 1, 1) := by decide +kernel
theorem d_So_solved_67 : decode b_So_solved 67 = .ok (.iload 6, 2) := by decide +kernel
theorem d_So_solved_69 : decode b_So_solved 69 = .ok (.ishr, 1) := by decide +kernel
theorem d_So_solved_70 : decode b_So_solved 70 = .ok (.iconst 1, 1) := by decide +kernel
theorem d_So_solved_71 : decode b_So_solved 71 = .ok (.iand, 1) := by decide +kernel
theorem d_So_solved_72 : decode b_So_solved 72 = .ok (.iconst 1, 1) := by decide +kernel
theorem d_So_solved_73 : decode b_So_solved 73 = .ok (.if_icmp .ne 47, 3) := by decide +kernel
theorem d_So_solved_76 : decode b_So_solved 76 = .ok (.aload_n 0, 1) := by decide +kernel
theorem d_So_solved_77 : decode b_So_solved 77 = .ok (.iload_n 1, 1) := by decide +kernel
theorem d_So_solved_78 : decode b_So_solved 78 = .ok (.iload 6, 2) := by decide +kernel
theorem d_So_solved_80 : decode b_So_solved 80 = .ok (.invokestatic 51, 3) := by decide +kernel
theorem d_So_solved_83 : decode b_So_solved 83 = .ok (.iload_n 2, 1) := by decide +kernel
theorem d_So_solved_84 : decode b_So_solved 84 = .ok (.iconst 1, 1) := by decide +kernel
theorem d_So_solved_85 : decode b_So_solved 85 = .ok (.iadd, 1) := by decide +kernel
theorem d_So_solved_86 : decode b_So_solved 86 = .ok (.invokestatic 55, 3) := by decide +kernel
theorem d_So_solved_89 : decode b_So_solved 89 = .ok (.istore 7, 2) := by decide +kernel
theorem d_So_solved_91 : decode b_So_solved 91 = .ok (.iload 4, 2) := by decide +kernel
theorem d_So_solved_93 : decode b_So_solved 93 = .ok (.iconst 1, 1) := by decide +kernel
theorem d_So_solved_94 : decode b_So_solved 94 = .ok (.iload 7, 2) := by decide +kernel
theorem d_So_solved_96 : decode b_So_solved 96 = .ok (.iconst 2, 1) := by decide +kernel
theorem d_So_solved_97 : decode b_So_solved 97 = .ok (.idiv, 1) := by decide +kernel
theorem d_So_solved_98 : decode b_So_solved 98 = .ok (.iadd, 1) := by decide +kernel
theorem d_So_solved_99 : decode b_So_solved 99 = .ok (.invokestatic 70, 3) := by decide +kernel
theorem d_So_solved_102 : decode b_So_solved 102 = .ok (.istore 4, 2) := by decide +kernel
theorem d_So_solved_104 : decode b_So_solved 104 = .ok (.iload 7, 2) := by decide +kernel
theorem d_So_solved_106 : decode b_So_solved 106 = .ok (.invokestatic 59, 3) := by decide +kernel
theorem d_So_solved_109 : decode b_So_solved 109 = .ok (.ifCond .eq 8, 3) := by decide +kernel
theorem d_So_solved_112 : decode b_So_solved 112 = .ok (.iload 5, 2) := by decide +kernel
theorem d_So_solved_114 : decode b_So_solved 114 = .ok (.goto 4, 3) := by decide +kernel
theorem d_So_solved_117 : decode b_So_solved 117 = .ok (.iconst 1, 1) := by decide +kernel
theorem d_So_solved_118 : decode b_So_solved 118 = .ok (.istore 5, 2) := by decide +kernel
theorem d_So_solved_120 : decode b_So_solved 120 = .ok (.iinc 6 1, 3) := by decide +kernel
theorem d_So_solved_123 : decode b_So_solved 123 = .ok (.goto (-64), 3) := by decide +kernel
theorem d_So_solved_126 : decode b_So_solved 126 = .ok (.aload_n 0, 1) := by decide +kernel
theorem d_So_solved_127 : decode b_So_solved 127 = .ok (.iload_n 1, 1) := by decide +kernel
theorem d_So_solved_128 : decode b_So_solved 128 = .ok (.iconst 2, 1) := by decide +kernel
theorem d_So_solved_129 : decode b_So_solved 129 = .ok (.iload 4, 2) := by decide +kernel
theorem d_So_solved_131 : decode b_So_solved 131 = .ok (.imul, 1) := by decide +kernel
theorem d_So_solved_132 : decode b_So_solved 132 = .ok (.iload 5, 2) := by decide +kernel
theorem d_So_solved_134 : decode b_So_solved 134 = .ok (.iadd, 1) := by decide +kernel
theorem d_So_solved_135 : decode b_So_solved 135 = .ok (.invokevirtual 75, 3) := by decide +kernel
theorem d_So_solved_138 : decode b_So_solved 138 = .ok (.iconst 2, 1) := by decide +kernel
theorem d_So_solved_139 : decode b_So_solved 139 = .ok (.iload 4, 2) := by decide +kernel
theorem d_So_solved_141 : decode b_So_solved 141 = .ok (.imul, 1) := by decide +kernel
theorem d_So_solved_142 : decode b_So_solved 142 = .ok (.iload 5, 2) := by decide +kernel
theorem d_So_solved_144 : decode b_So_solved 144 = .ok (.iadd, 1) := by decide +kernel
theorem d_So_solved_145 : decode b_So_solved 145 = .ok (.ireturn, 1) := by decide +kernel
theorem d_So_slotOf_0 : decode b_So_slotOf 0 = .ok (.iload_n 1, 1) := by decide +kernel
theorem d_So_slotOf_1 : decode b_So_slotOf 1 = .ok (.ldc 79, 2) := by decide +kernel
theorem d_So_slotOf_3 : decode b_So_slotOf 3 = .ok (.imul, 1) := by decide +kernel
theorem d_So_slotOf_4 : decode b_So_slotOf 4 = .ok (.bipush 22, 2) := by decide +kernel
theorem d_So_slotOf_6 : decode b_So_slotOf 6 = .ok (.iushr, 1) := by decide +kernel
theorem d_So_slotOf_7 : decode b_So_slotOf 7 = .ok (.istore_n 2, 1) := by decide +kernel
theorem d_So_slotOf_8 : decode b_So_slotOf 8 = .ok (.iconst 0, 1) := by decide +kernel
theorem d_So_slotOf_9 : decode b_So_slotOf 9 = .ok (.istore_n 3, 1) := by decide +kernel
theorem d_So_slotOf_10 : decode b_So_slotOf 10 = .ok (.iload_n 3, 1) := by decide +kernel
theorem d_So_slotOf_11 : decode b_So_slotOf 11 = .ok (.sipush 1024, 3) := by decide +kernel
theorem d_So_slotOf_14 : decode b_So_slotOf 14 = .ok (.if_icmp .ge 42, 3) := by decide +kernel
theorem d_So_slotOf_17 : decode b_So_slotOf 17 = .ok (.iload_n 2, 1) := by decide +kernel
theorem d_So_slotOf_18 : decode b_So_slotOf 18 = .ok (.iload_n 3, 1) := by decide +kernel
theorem d_So_slotOf_19 : decode b_So_slotOf 19 = .ok (.iadd, 1) := by decide +kernel
theorem d_So_slotOf_20 : decode b_So_slotOf 20 = .ok (.sipush 1023, 3) := by decide +kernel
theorem d_So_slotOf_23 : decode b_So_slotOf 23 = .ok (.iand, 1) := by decide +kernel
theorem d_So_slotOf_24 : decode b_So_slotOf 24 = .ok (.istore 4, 2) := by decide +kernel
theorem d_So_slotOf_26 : decode b_So_slotOf 26 = .ok (.aload_n 0, 1) := by decide +kernel
theorem d_So_slotOf_27 : decode b_So_slotOf 27 = .ok (.getfield 11, 3) := by decide +kernel
theorem d_So_slotOf_30 : decode b_So_slotOf 30 = .ok (.iload 4, 2) := by decide +kernel
theorem d_So_slotOf_32 : decode b_So_slotOf 32 = .ok (.iaload, 1) := by decide +kernel
theorem d_So_slotOf_33 : decode b_So_slotOf 33 = .ok (.iload_n 1, 1) := by decide +kernel
theorem d_So_slotOf_34 : decode b_So_slotOf 34 = .ok (.if_icmp .eq 13, 3) := by decide +kernel
theorem d_So_slotOf_37 : decode b_So_slotOf 37 = .ok (.aload_n 0, 1) := by decide +kernel
theorem d_So_slotOf_38 : decode b_So_slotOf 38 = .ok (.getfield 11, 3) := by decide +kernel
theorem d_So_slotOf_41 : decode b_So_slotOf 41 = .ok (.iload 4, 2) := by decide +kernel
theorem d_So_slotOf_43 : decode b_So_slotOf 43 = .ok (.iaload, 1) := by decide +kernel
theorem d_So_slotOf_44 : decode b_So_slotOf 44 = .ok (.ifCond .ne 6, 3) := by decide +kernel
theorem d_So_slotOf_47 : decode b_So_slotOf 47 = .ok (.iload 4, 2) := by decide +kernel
theorem d_So_slotOf_49 : decode b_So_slotOf 49 = .ok (.ireturn, 1) := by decide +kernel
theorem d_So_slotOf_50 : decode b_So_slotOf 50 = .ok (.iinc 3 1, 3) := by decide +kernel
theorem d_So_slotOf_53 : decode b_So_slotOf 53 = .ok (.goto (-43), 3) := by decide +kernel
theorem d_So_slotOf_56 : decode b_So_slotOf 56 = .ok (.iconst (-1), 1) := by decide +kernel
theorem d_So_slotOf_57 : decode b_So_slotOf 57 = .ok (.ireturn, 1) := by decide +kernel
theorem d_Ma_min_0 : decode b_Ma_min 0 = .ok (.iload_n 0, 1) := by decide +kernel
theorem d_Ma_min_1 : decode b_Ma_min 1 = .ok (.iload_n 1, 1) := by decide +kernel
theorem d_Ma_min_2 : decode b_Ma_min 2 = .ok (.if_icmp .gt 7, 3) := by decide +kernel
theorem d_Ma_min_5 : decode b_Ma_min 5 = .ok (.iload_n 0, 1) := by decide +kernel
theorem d_Ma_min_6 : decode b_Ma_min 6 = .ok (.goto 4, 3) := by decide +kernel
theorem d_Ma_min_9 : decode b_Ma_min 9 = .ok (.iload_n 1, 1) := by decide +kernel
theorem d_Ma_min_10 : decode b_Ma_min 10 = .ok (.ireturn, 1) := by decide +kernel
theorem d_So_isWin_0 : decode b_So_isWin 0 = .ok (.iload_n 0, 1) := by decide +kernel
theorem d_So_isWin_1 : decode b_So_isWin 1 = .ok (.iconst 2, 1) := by decide +kernel
theorem d_So_isWin_2 : decode b_So_isWin 2 = .ok (.irem, 1) := by decide +kernel
theorem d_So_isWin_3 : decode b_So_isWin 3 = .ok (.iconst 1, 1) := by decide +kernel
theorem d_So_isWin_4 : decode b_So_isWin 4 = .ok (.if_icmp .ne 7, 3) := by decide +kernel
theorem d_So_isWin_7 : decode b_So_isWin 7 = .ok (.iconst 1, 1) := by decide +kernel
theorem d_So_isWin_8 : decode b_So_isWin 8 = .ok (.goto 4, 3) := by decide +kernel
theorem d_So_isWin_11 : decode b_So_isWin 11 = .ok (.iconst 0, 1) := by decide +kernel
theorem d_So_isWin_12 : decode b_So_isWin 12 = .ok (.ireturn, 1) := by decide +kernel
theorem d_So_remember_0 : decode b_So_remember 0 = .ok (.aload_n 0, 1) := by decide +kernel
theorem d_So_remember_1 : decode b_So_remember 1 = .ok (.iload_n 1, 1) := by decide +kernel
theorem d_So_remember_2 : decode b_So_remember 2 = .ok (.invokevirtual 67, 3) := by decide +kernel
theorem d_So_remember_5 : decode b_So_remember 5 = .ok (.istore_n 3, 1) := by decide +kernel
theorem d_So_remember_6 : decode b_So_remember 6 = .ok (.iload_n 3, 1) := by decide +kernel
theorem d_So_remember_7 : decode b_So_remember 7 = .ok (.ifCond .lt 36, 3) := by decide +kernel
theorem d_So_remember_10 : decode b_So_remember 10 = .ok (.aload_n 0, 1) := by decide +kernel
theorem d_So_remember_11 : decode b_So_remember 11 = .ok (.getfield 11, 3) := by decide +kernel
theorem d_So_remember_14 : decode b_So_remember 14 = .ok (.iload_n 3, 1) := by decide +kernel
theorem d_So_remember_15 : decode b_So_remember 15 = .ok (.iaload, 1) := by decide +kernel
theorem d_So_remember_16 : decode b_So_remember 16 = .ok (.ifCond .ne 27, 3) := by decide +kernel
theorem d_So_remember_19 : decode b_So_remember 19 = .ok (.aload_n 0, 1) := by decide +kernel
theorem d_So_remember_20 : decode b_So_remember 20 = .ok (.getfield 11, 3) := by decide +kernel
theorem d_So_remember_23 : decode b_So_remember 23 = .ok (.iload_n 3, 1) := by decide +kernel
theorem d_So_remember_24 : decode b_So_remember 24 = .ok (.iload_n 1, 1) := by decide +kernel
theorem d_So_remember_25 : decode b_So_remember 25 = .ok (.iastore, 1) := by decide +kernel
theorem d_So_remember_26 : decode b_So_remember 26 = .ok (.aload_n 0, 1) := by decide +kernel
theorem d_So_remember_27 : decode b_So_remember 27 = .ok (.getfield 15, 3) := by decide +kernel
theorem d_So_remember_30 : decode b_So_remember 30 = .ok (.iload_n 3, 1) := by decide +kernel
theorem d_So_remember_31 : decode b_So_remember 31 = .ok (.iload_n 2, 1) := by decide +kernel
theorem d_So_remember_32 : decode b_So_remember 32 = .ok (.iastore, 1) := by decide +kernel
theorem d_So_remember_33 : decode b_So_remember 33 = .ok (.aload_n 0, 1) := by decide +kernel
theorem d_So_remember_34 : decode b_So_remember 34 = .ok (.dup, 1) := by decide +kernel
theorem d_So_remember_35 : decode b_So_remember 35 = .ok (.getfield 37, 3) := by decide +kernel
theorem d_So_remember_38 : decode b_So_remember 38 = .ok (.iconst 1, 1) := by decide +kernel
theorem d_So_remember_39 : decode b_So_remember 39 = .ok (.iadd, 1) := by decide +kernel
theorem d_So_remember_40 : decode b_So_remember 40 = .ok (.putfield 37, 3) := by decide +kernel
theorem d_So_remember_43 : decode b_So_remember 43 = .ok (.return_, 1) := by decide +kernel
theorem d_Gm_leastAboveOne_0 : decode b_Gm_leastAboveOne 0 = .ok (.aload_n 0, 1) := by decide +kernel
theorem d_Gm_leastAboveOne_1 : decode b_Gm_leastAboveOne 1 = .ok (.invokevirtual 63, 3) := by decide +kernel
theorem d_Gm_leastAboveOne_4 : decode b_Gm_leastAboveOne 4 = .ok (.lstore_n 1, 1) := by decide +kernel
theorem d_Gm_leastAboveOne_5 : decode b_Gm_leastAboveOne 5 = .ok (.lload_n 1, 1) := by decide +kernel
theorem d_Gm_leastAboveOne_6 : decode b_Gm_leastAboveOne 6 = .ok (.lconst 0, 1) := by decide +kernel
theorem d_Gm_leastAboveOne_7 : decode b_Gm_leastAboveOne 7 = .ok (.lcmp, 1) := by decide +kernel
theorem d_Gm_leastAboveOne_8 : decode b_Gm_leastAboveOne 8 = .ok (.ifCond .ne 7, 3) := by decide +kernel
theorem d_Gm_leastAboveOne_11 : decode b_Gm_leastAboveOne 11 = .ok (.iconst 1, 1) := by decide +kernel
theorem d_Gm_leastAboveOne_12 : decode b_Gm_leastAboveOne 12 = .ok (.goto 7, 3) := by decide +kernel
theorem d_Gm_leastAboveOne_15 : decode b_Gm_leastAboveOne 15 = .ok (.lload_n 1, 1) := by decide +kernel
theorem d_Gm_leastAboveOne_16 : decode b_Gm_leastAboveOne 16 = .ok (.invokestatic 66, 3) := by decide +kernel
theorem d_Gm_leastAboveOne_19 : decode b_Gm_leastAboveOne 19 = .ok (.ireturn, 1) := by decide +kernel
theorem d_Gm_openAboveOne_0 : decode b_Gm_openAboveOne 0 = .ok (.aload_n 0, 1) := by decide +kernel
theorem d_Gm_openAboveOne_1 : decode b_Gm_openAboveOne 1 = .ok (.invokevirtual 51, 3) := by decide +kernel
theorem d_Gm_openAboveOne_4 : decode b_Gm_openAboveOne 4 = .ok (.ldc2_w 55, 3) := by decide +kernel
theorem d_Gm_openAboveOne_7 : decode b_Gm_openAboveOne 7 = .ok (.land, 1) := by decide +kernel
theorem d_Gm_openAboveOne_8 : decode b_Gm_openAboveOne 8 = .ok (.lreturn, 1) := by decide +kernel
theorem d_Ch_choice_0 : decode b_Ch_choice 0 = .ok (.iload_n 3, 1) := by decide +kernel
theorem d_Ch_choice_1 : decode b_Ch_choice 1 = .ok (.ifCond .gt 11, 3) := by decide +kernel
theorem d_Ch_choice_4 : decode b_Ch_choice 4 = .ok (.aload_n 0, 1) := by decide +kernel
theorem d_Ch_choice_5 : decode b_Ch_choice 5 = .ok (.aload_n 1, 1) := by decide +kernel
theorem d_Ch_choice_6 : decode b_Ch_choice 6 = .ok (.aload_n 2, 1) := by decide +kernel
theorem d_Ch_choice_7 : decode b_Ch_choice 7 = .ok (.iload_n 3, 1) := by decide +kernel
theorem d_Ch_choice_8 : decode b_Ch_choice 8 = .ok (.invokespecial 7, 3) := by decide +kernel
theorem d_Ch_choice_11 : decode b_Ch_choice 11 = .ok (.ireturn, 1) := by decide +kernel
theorem d_Ch_choice_12 : decode b_Ch_choice 12 = .ok (.aload_n 1, 1) := by decide +kernel
theorem d_Ch_choice_13 : decode b_Ch_choice 13 = .ok (.invokevirtual 11, 3) := by decide +kernel
theorem d_Ch_choice_16 : decode b_Ch_choice 16 = .ok (.lstore 4, 2) := by decide +kernel
theorem d_Ch_choice_18 : decode b_Ch_choice 18 = .ok (.lload 4, 2) := by decide +kernel
theorem d_Ch_choice_20 : decode b_Ch_choice 20 = .ok (.invokestatic 17, 3) := by decide +kernel
theorem d_Ch_choice_23 : decode b_Ch_choice 23 = .ok (.istore 6, 2) := by decide +kernel
theorem d_Ch_choice_25 : decode b_Ch_choice 25 = .ok (.iload 6, 2) := by decide +kernel
theorem d_Ch_choice_27 : decode b_Ch_choice 27 = .ok (.ifCond .ne 5, 3) := by decide +kernel
theorem d_Ch_choice_30 : decode b_Ch_choice 30 = .ok (.iconst 1, 1) := by decide +kernel
theorem d_Ch_choice_31 : decode b_Ch_choice 31 = .ok (.ireturn, 1) := by decide +kernel
theorem d_Ch_choice_32 : decode b_Ch_choice 32 = .ok (.iload_n 3, 1) := by decide +kernel
theorem d_Ch_choice_33 : decode b_Ch_choice 33 = .ok (.iload 6, 2) := by decide +kernel
theorem d_Ch_choice_35 : decode b_Ch_choice 35 = .ok (.irem, 1) := by decide +kernel
theorem d_Ch_choice_36 : decode b_Ch_choice 36 = .ok (.istore 7, 2) := by decide +kernel
theorem d_Ch_choice_38 : decode b_Ch_choice 38 = .ok (.iconst 0, 1) := by decide +kernel
theorem d_Ch_choice_39 : decode b_Ch_choice 39 = .ok (.istore 8, 2) := by decide +kernel
theorem d_Ch_choice_41 : decode b_Ch_choice 41 = .ok (.iload 8, 2) := by decide +kernel
theorem d_Ch_choice_43 : decode b_Ch_choice 43 = .ok (.iload 7, 2) := by decide +kernel
theorem d_Ch_choice_45 : decode b_Ch_choice 45 = .ok (.if_icmp .ge 18, 3) := by decide +kernel
theorem d_Ch_choice_48 : decode b_Ch_choice 48 = .ok (.lload 4, 2) := by decide +kernel
theorem d_Ch_choice_50 : decode b_Ch_choice 50 = .ok (.lload 4, 2) := by decide +kernel
theorem d_Ch_choice_52 : decode b_Ch_choice 52 = .ok (.lconst 1, 1) := by decide +kernel
theorem d_Ch_choice_53 : decode b_Ch_choice 53 = .ok (.lsub, 1) := by decide +kernel
theorem d_Ch_choice_54 : decode b_Ch_choice 54 = .ok (.land, 1) := by decide +kernel
theorem d_Ch_choice_55 : decode b_Ch_choice 55 = .ok (.lstore 4, 2) := by decide +kernel
theorem d_Ch_choice_57 : decode b_Ch_choice 57 = .ok (.iinc 8 1, 3) := by decide +kernel
theorem d_Ch_choice_60 : decode b_Ch_choice 60 = .ok (.goto (-19), 3) := by decide +kernel
theorem d_Ch_choice_63 : decode b_Ch_choice 63 = .ok (.lload 4, 2) := by decide +kernel
theorem d_Ch_choice_65 : decode b_Ch_choice 65 = .ok (.invokestatic 23, 3) := by decide +kernel
theorem d_Ch_choice_68 : decode b_Ch_choice 68 = .ok (.ireturn, 1) := by decide +kernel
theorem d_Pr_choice_0 : decode b_Pr_choice 0 = .ok (.aload_n 1, 1) := by decide +kernel
theorem d_Pr_choice_1 : decode b_Pr_choice 1 = .ok (.invokevirtual 7, 3) := by decide +kernel
theorem d_Pr_choice_4 : decode b_Pr_choice 4 = .ok (.istore 4, 2) := by decide +kernel
theorem d_Pr_choice_6 : decode b_Pr_choice 6 = .ok (.iload 4, 2) := by decide +kernel
theorem d_Pr_choice_8 : decode b_Pr_choice 8 = .ok (.iconst 1, 1) := by decide +kernel
theorem d_Pr_choice_9 : decode b_Pr_choice 9 = .ok (.if_icmp .le 17, 3) := by decide +kernel
theorem d_Pr_choice_12 : decode b_Pr_choice 12 = .ok (.aload_n 1, 1) := by decide +kernel
theorem d_Pr_choice_13 : decode b_Pr_choice 13 = .ok (.iload 4, 2) := by decide +kernel
theorem d_Pr_choice_15 : decode b_Pr_choice 15 = .ok (.invokevirtual 13, 3) := by decide +kernel
theorem d_Pr_choice_18 : decode b_Pr_choice 18 = .ok (.ifCond .eq 8, 3) := by decide +kernel
theorem d_Pr_choice_21 : decode b_Pr_choice 21 = .ok (.iload 4, 2) := by decide +kernel
theorem d_Pr_choice_23 : decode b_Pr_choice 23 = .ok (.goto 7, 3) := by decide +kernel
theorem d_Pr_choice_26 : decode b_Pr_choice 26 = .ok (.aload_n 1, 1) := by decide +kernel
theorem d_Pr_choice_27 : decode b_Pr_choice 27 = .ok (.invokevirtual 17, 3) := by decide +kernel
theorem d_Pr_choice_30 : decode b_Pr_choice 30 = .ok (.ireturn, 1) := by decide +kernel
theorem d_Gm_pairNumber_0 : decode b_Gm_pairNumber 0 = .ok (.aload_n 0, 1) := by decide +kernel
theorem d_Gm_pairNumber_1 : decode b_Gm_pairNumber 1 = .ok (.invokevirtual 51, 3) := by decide +kernel
theorem d_Gm_pairNumber_4 : decode b_Gm_pairNumber 4 = .ok (.invokestatic 69, 3) := by decide +kernel
theorem d_Gm_pairNumber_7 : decode b_Gm_pairNumber 7 = .ok (.aload_n 0, 1) := by decide +kernel
theorem d_Gm_pairNumber_8 : decode b_Gm_pairNumber 8 = .ok (.invokevirtual 72, 3) := by decide +kernel
theorem d_Gm_pairNumber_11 : decode b_Gm_pairNumber 11 = .ok (.isub, 1) := by decide +kernel
theorem d_Gm_pairNumber_12 : decode b_Gm_pairNumber 12 = .ok (.ireturn, 1) := by decide +kernel
theorem d_X_highestOf_0 : decode b_X_highestOf 0 = .ok (.bipush 60, 2) := by decide +kernel
theorem d_X_highestOf_2 : decode b_X_highestOf 2 = .ok (.istore_n 2, 1) := by decide +kernel
theorem d_X_highestOf_3 : decode b_X_highestOf 3 = .ok (.iload_n 2, 1) := by decide +kernel
theorem d_X_highestOf_4 : decode b_X_highestOf 4 = .ok (.ifCond .le 21, 3) := by decide +kernel
theorem d_X_highestOf_7 : decode b_X_highestOf 7 = .ok (.lload_n 0, 1) := by decide +kernel
theorem d_X_highestOf_8 : decode b_X_highestOf 8 = .ok (.iload_n 2, 1) := by decide +kernel
theorem d_X_highestOf_9 : decode b_X_highestOf 9 = .ok (.lshr, 1) := by decide +kernel
theorem d_X_highestOf_10 : decode b_X_highestOf 10 = .ok (.lconst 1, 1) := by decide +kernel
theorem d_X_highestOf_11 : decode b_X_highestOf 11 = .ok (.land, 1) := by decide +kernel
theorem d_X_highestOf_12 : decode b_X_highestOf 12 = .ok (.lconst 1, 1) := by decide +kernel
theorem d_X_highestOf_13 : decode b_X_highestOf 13 = .ok (.lcmp, 1) := by decide +kernel
theorem d_X_highestOf_14 : decode b_X_highestOf 14 = .ok (.ifCond .ne 5, 3) := by decide +kernel
theorem d_X_highestOf_17 : decode b_X_highestOf 17 = .ok (.iload_n 2, 1) := by decide +kernel
theorem d_X_highestOf_18 : decode b_X_highestOf 18 = .ok (.ireturn, 1) := by decide +kernel
theorem d_X_highestOf_19 : decode b_X_highestOf 19 = .ok (.iinc 2 (-1), 3) := by decide +kernel
theorem d_X_highestOf_22 : decode b_X_highestOf 22 = .ok (.goto (-19), 3) := by decide +kernel
theorem d_X_highestOf_25 : decode b_X_highestOf 25 = .ok (.iconst 0, 1) := by decide +kernel
theorem d_X_highestOf_26 : decode b_X_highestOf 26 = .ok (.ireturn, 1) := by decide +kernel
theorem d_Sm_choice_0 : decode b_Sm_choice 0 = .ok (.iconst 1, 1) := by decide +kernel
theorem d_Sm_choice_1 : decode b_Sm_choice 1 = .ok (.istore 4, 2) := by decide +kernel
theorem d_Sm_choice_3 : decode b_Sm_choice 3 = .ok (.iconst 0, 1) := by decide +kernel
theorem d_Sm_choice_4 : decode b_Sm_choice 4 = .ok (.istore 5, 2) := by decide +kernel
theorem d_Sm_choice_6 : decode b_Sm_choice 6 = .ok (.iconst 2, 1) := by decide +kernel
theorem d_Sm_choice_7 : decode b_Sm_choice 7 = .ok (.istore 6, 2) := by decide +kernel
theorem d_Sm_choice_9 : decode b_Sm_choice 9 = .ok (.iload 6, 2) := by decide +kernel
theorem d_Sm_choice_11 : decode b_Sm_choice 11 = .ok (.bipush 60, 2) := by decide +kernel
theorem d_Sm_choice_13 : decode b_Sm_choice 13 = .ok (.if_icmp .gt 51, 3) := by decide +kernel
theorem d_Sm_choice_16 : decode b_Sm_choice 16 = .ok (.aload_n 1, 1) := by decide +kernel
theorem d_Sm_choice_17 : decode b_Sm_choice 17 = .ok (.iload 6, 2) := by decide +kernel
theorem d_Sm_choice_19 : decode b_Sm_choice 19 = .ok (.invokevirtual 9, 3) := by decide +kernel
theorem d_Sm_choice_22 : decode b_Sm_choice 22 = .ok (.ifCond .eq 36, 3) := by decide +kernel
theorem d_Sm_choice_25 : decode b_Sm_choice 25 = .ok (.aload_n 1, 1) := by decide +kernel
theorem d_Sm_choice_26 : decode b_Sm_choice 26 = .ok (.iload 6, 2) := by decide +kernel
theorem d_Sm_choice_28 : decode b_Sm_choice 28 = .ok (.invokevirtual 15, 3) := by decide +kernel
theorem d_Sm_choice_31 : decode b_Sm_choice 31 = .ok (.istore 7, 2) := by decide +kernel
theorem d_Sm_choice_33 : decode b_Sm_choice 33 = .ok (.iload 4, 2) := by decide +kernel
theorem d_Sm_choice_35 : decode b_Sm_choice 35 = .ok (.iconst 1, 1) := by decide +kernel
theorem d_Sm_choice_36 : decode b_Sm_choice 36 = .ok (.if_icmp .eq 14, 3) := by decide +kernel
theorem d_Sm_choice_39 : decode b_Sm_choice 39 = .ok (.aload_n 0, 1) := by decide +kernel
theorem d_Sm_choice_40 : decode b_Sm_choice 40 = .ok (.iload 7, 2) := by decide +kernel
theorem d_Sm_choice_42 : decode b_Sm_choice 42 = .ok (.iload 5, 2) := by decide +kernel
theorem d_Sm_choice_44 : decode b_Sm_choice 44 = .ok (.invokevirtual 19, 3) := by decide +kernel
theorem d_Sm_choice_47 : decode b_Sm_choice 47 = .ok (.ifCond .eq 11, 3) := by decide +kernel
theorem d_Sm_choice_50 : decode b_Sm_choice 50 = .ok (.iload 6, 2) := by decide +kernel
theorem d_Sm_choice_52 : decode b_Sm_choice 52 = .ok (.istore 4, 2) := by decide +kernel
theorem d_Sm_choice_54 : decode b_Sm_choice 54 = .ok (.iload 7, 2) := by decide +kernel
theorem d_Sm_choice_56 : decode b_Sm_choice 56 = .ok (.istore 5, 2) := by decide +kernel
theorem d_Sm_choice_58 : decode b_Sm_choice 58 = .ok (.iinc 6 1, 3) := by decide +kernel
theorem d_Sm_choice_61 : decode b_Sm_choice 61 = .ok (.goto (-52), 3) := by decide +kernel
theorem d_Sm_choice_64 : decode b_Sm_choice 64 = .ok (.iload 4, 2) := by decide +kernel
theorem d_Sm_choice_66 : decode b_Sm_choice 66 = .ok (.ireturn, 1) := by decide +kernel
theorem d_Gm_openBehind_0 : decode b_Gm_openBehind 0 = .ok (.aload_n 0, 1) := by decide +kernel
theorem d_Gm_openBehind_1 : decode b_Gm_openBehind 1 = .ok (.iload_n 1, 1) := by decide +kernel
theorem d_Gm_openBehind_2 : decode b_Gm_openBehind 2 = .ok (.invokevirtual 30, 3) := by decide +kernel
theorem d_Gm_openBehind_5 : decode b_Gm_openBehind 5 = .ok (.ldc2_w 47, 3) := by decide +kernel
theorem d_Gm_openBehind_8 : decode b_Gm_openBehind 8 = .ok (.lxor, 1) := by decide +kernel
theorem d_Gm_openBehind_9 : decode b_Gm_openBehind 9 = .ok (.ldc2_w 49, 3) := by decide +kernel
theorem d_Gm_openBehind_12 : decode b_Gm_openBehind 12 = .ok (.land, 1) := by decide +kernel
theorem d_Gm_openBehind_13 : decode b_Gm_openBehind 13 = .ok (.invokestatic 57, 3) := by decide +kernel
theorem d_Gm_openBehind_16 : decode b_Gm_openBehind 16 = .ok (.ireturn, 1) := by decide +kernel
theorem d_Lo_isBetter_0 : decode b_Lo_isBetter 0 = .ok (.iload_n 1, 1) := by decide +kernel
theorem d_Lo_isBetter_1 : decode b_Lo_isBetter 1 = .ok (.iload_n 2, 1) := by decide +kernel
theorem d_Lo_isBetter_2 : decode b_Lo_isBetter 2 = .ok (.if_icmp .le 7, 3) := by decide +kernel
theorem d_Lo_isBetter_5 : decode b_Lo_isBetter 5 = .ok (.iconst 1, 1) := by decide +kernel
theorem d_Lo_isBetter_6 : decode b_Lo_isBetter 6 = .ok (.goto 4, 3) := by decide +kernel
theorem d_Lo_isBetter_9 : decode b_Lo_isBetter 9 = .ok (.iconst 0, 1) := by decide +kernel
theorem d_Lo_isBetter_10 : decode b_Lo_isBetter 10 = .ok (.ireturn, 1) := by decide +kernel
theorem d_Sm_isBetter_0 : decode b_Sm_isBetter 0 = .ok (.iload_n 1, 1) := by decide +kernel
theorem d_Sm_isBetter_1 : decode b_Sm_isBetter 1 = .ok (.iload_n 2, 1) := by decide +kernel
theorem d_Sm_isBetter_2 : decode b_Sm_isBetter 2 = .ok (.if_icmp .ge 7, 3) := by decide +kernel
theorem d_Sm_isBetter_5 : decode b_Sm_isBetter 5 = .ok (.iconst 1, 1) := by decide +kernel
theorem d_Sm_isBetter_6 : decode b_Sm_isBetter 6 = .ok (.goto 4, 3) := by decide +kernel
theorem d_Sm_isBetter_9 : decode b_Sm_isBetter 9 = .ok (.iconst 0, 1) := by decide +kernel
theorem d_Sm_isBetter_10 : decode b_Sm_isBetter 10 = .ok (.ireturn, 1) := by decide +kernel
theorem d_Pl_choice_0 : decode b_Pl_choice 0 = .ok (.aload_n 1, 1) := by decide +kernel
theorem d_Pl_choice_1 : decode b_Pl_choice 1 = .ok (.invokevirtual 7, 3) := by decide +kernel
theorem d_Pl_choice_4 : decode b_Pl_choice 4 = .ok (.ireturn, 1) := by decide +kernel
theorem d_So_winCount_0 : decode b_So_winCount 0 = .ok (.iconst 0, 1) := by decide +kernel
theorem d_So_winCount_1 : decode b_So_winCount 1 = .ok (.istore_n 1, 1) := by decide +kernel
theorem d_So_winCount_2 : decode b_So_winCount 2 = .ok (.iconst 2, 1) := by decide +kernel
theorem d_So_winCount_3 : decode b_So_winCount 3 = .ok (.istore_n 2, 1) := by decide +kernel
theorem d_So_winCount_4 : decode b_So_winCount 4 = .ok (.iload_n 2, 1) := by decide +kernel
theorem d_So_winCount_5 : decode b_So_winCount 5 = .ok (.bipush 28, 2) := by decide +kernel
theorem d_So_winCount_7 : decode b_So_winCount 7 = .ok (.if_icmp .ge 20, 3) := by decide +kernel
theorem d_So_winCount_10 : decode b_So_winCount 10 = .ok (.aload_n 0, 1) := by decide +kernel
theorem d_So_winCount_11 : decode b_So_winCount 11 = .ok (.iload_n 2, 1) := by decide +kernel
theorem d_So_winCount_12 : decode b_So_winCount 12 = .ok (.invokevirtual 63, 3) := by decide +kernel
theorem d_So_winCount_15 : decode b_So_winCount 15 = .ok (.ifCond .eq 6, 3) := by decide +kernel
theorem d_So_winCount_18 : decode b_So_winCount 18 = .ok (.iinc 1 1, 3) := by decide +kernel
theorem d_So_winCount_21 : decode b_So_winCount 21 = .ok (.iinc 2 1, 3) := by decide +kernel
theorem d_So_winCount_24 : decode b_So_winCount 24 = .ok (.goto (-20), 3) := by decide +kernel
theorem d_So_winCount_27 : decode b_So_winCount 27 = .ok (.iload_n 1, 1) := by decide +kernel
theorem d_So_winCount_28 : decode b_So_winCount 28 = .ok (.ireturn, 1) := by decide +kernel
theorem d_Gm_openCount_0 : decode b_Gm_openCount 0 = .ok (.aload_n 0, 1) := by decide +kernel
theorem d_Gm_openCount_1 : decode b_Gm_openCount 1 = .ok (.invokevirtual 51, 3) := by decide +kernel
theorem d_Gm_openCount_4 : decode b_Gm_openCount 4 = .ok (.invokestatic 57, 3) := by decide +kernel
theorem d_Gm_openCount_7 : decode b_Gm_openCount 7 = .ok (.ireturn, 1) := by decide +kernel
theorem d_X_say_0 : decode b_X_say 0 = .ok (.iload_n 1, 1) := by decide +kernel
theorem d_X_say_1 : decode b_X_say 1 = .ok (.iconst 1, 1) := by decide +kernel
theorem d_X_say_2 : decode b_X_say 2 = .ok (.if_icmp .lt 9, 3) := by decide +kernel
theorem d_X_say_5 : decode b_X_say 5 = .ok (.iload_n 1, 1) := by decide +kernel
theorem d_X_say_6 : decode b_X_say 6 = .ok (.bipush 60, 2) := by decide +kernel
theorem d_X_say_8 : decode b_X_say 8 = .ok (.if_icmp .le 5, 3) := by decide +kernel
theorem d_X_say_11 : decode b_X_say 11 = .ok (.iconst (-1), 1) := by decide +kernel
theorem d_X_say_12 : decode b_X_say 12 = .ok (.ireturn, 1) := by decide +kernel
theorem d_X_say_13 : decode b_X_say 13 = .ok (.aload_n 0, 1) := by decide +kernel
theorem d_X_say_14 : decode b_X_say 14 = .ok (.getfield 21, 3) := by decide +kernel
theorem d_X_say_17 : decode b_X_say 17 = .ok (.invokevirtual 159, 3) := by decide +kernel
theorem d_X_say_20 : decode b_X_say 20 = .ok (.ifCond .ne 14, 3) := by decide +kernel
theorem d_X_say_23 : decode b_X_say 23 = .ok (.aload_n 0, 1) := by decide +kernel
theorem d_X_say_24 : decode b_X_say 24 = .ok (.getfield 21, 3) := by decide +kernel
theorem d_X_say_27 : decode b_X_say 27 = .ok (.iload_n 1, 1) := by decide +kernel
theorem d_X_say_28 : decode b_X_say 28 = .ok (.invokevirtual 196, 3) := by decide +kernel
theorem d_X_say_31 : decode b_X_say 31 = .ok (.ifCond .ne 6, 3) := by decide +kernel
theorem d_X_say_34 : decode b_X_say 34 = .ok (.bipush (-4), 2) := by decide +kernel
theorem d_X_say_36 : decode b_X_say 36 = .ok (.ireturn, 1) := by decide +kernel
theorem d_X_say_37 : decode b_X_say 37 = .ok (.aload_n 0, 1) := by decide +kernel
theorem d_X_say_38 : decode b_X_say 38 = .ok (.getfield 21, 3) := by decide +kernel
theorem d_X_say_41 : decode b_X_say 41 = .ok (.getfield 147, 3) := by decide +kernel
theorem d_X_say_44 : decode b_X_say 44 = .ok (.bipush 12, 2) := by decide +kernel
theorem d_X_say_46 : decode b_X_say 46 = .ok (.if_icmp .lt 11, 3) := by decide +kernel
theorem d_X_say_49 : decode b_X_say 49 = .ok (.iload_n 1, 1) := by decide +kernel
theorem d_X_say_50 : decode b_X_say 50 = .ok (.iconst 1, 1) := by decide +kernel
theorem d_X_say_51 : decode b_X_say 51 = .ok (.if_icmp .eq 6, 3) := by decide +kernel
theorem d_X_say_54 : decode b_X_say 54 = .ok (.bipush (-2), 2) := by decide +kernel
theorem d_X_say_56 : decode b_X_say 56 = .ok (.ireturn, 1) := by decide +kernel
theorem d_X_say_57 : decode b_X_say 57 = .ok (.aload_n 0, 1) := by decide +kernel
theorem d_X_say_58 : decode b_X_say 58 = .ok (.getfield 21, 3) := by decide +kernel
theorem d_X_say_61 : decode b_X_say 61 = .ok (.iload_n 1, 1) := by decide +kernel
theorem d_X_say_62 : decode b_X_say 62 = .ok (.invokevirtual 200, 3) := by decide +kernel
theorem d_X_say_65 : decode b_X_say 65 = .ok (.aload_n 0, 1) := by decide +kernel
theorem d_X_say_66 : decode b_X_say 66 = .ok (.getfield 21, 3) := by decide +kernel
theorem d_X_say_69 : decode b_X_say 69 = .ok (.invokevirtual 184, 3) := by decide +kernel
theorem d_X_say_72 : decode b_X_say 72 = .ok (.ireturn, 1) := by decide +kernel
theorem d_X_may_0 : decode b_X_may 0 = .ok (.iload_n 1, 1) := by decide +kernel
theorem d_X_may_1 : decode b_X_may 1 = .ok (.iconst 1, 1) := by decide +kernel
theorem d_X_may_2 : decode b_X_may 2 = .ok (.if_icmp .lt 9, 3) := by decide +kernel
theorem d_X_may_5 : decode b_X_may 5 = .ok (.iload_n 1, 1) := by decide +kernel
theorem d_X_may_6 : decode b_X_may 6 = .ok (.bipush 60, 2) := by decide +kernel
theorem d_X_may_8 : decode b_X_may 8 = .ok (.if_icmp .le 5, 3) := by decide +kernel
theorem d_X_may_11 : decode b_X_may 11 = .ok (.iconst (-1), 1) := by decide +kernel
theorem d_X_may_12 : decode b_X_may 12 = .ok (.ireturn, 1) := by decide +kernel
theorem d_X_may_13 : decode b_X_may 13 = .ok (.aload_n 0, 1) := by decide +kernel
theorem d_X_may_14 : decode b_X_may 14 = .ok (.getfield 21, 3) := by decide +kernel
theorem d_X_may_17 : decode b_X_may 17 = .ok (.iload_n 1, 1) := by decide +kernel
theorem d_X_may_18 : decode b_X_may 18 = .ok (.invokevirtual 196, 3) := by decide +kernel
theorem d_X_may_21 : decode b_X_may 21 = .ok (.ifCond .eq 7, 3) := by decide +kernel
theorem d_X_may_24 : decode b_X_may 24 = .ok (.iconst 1, 1) := by decide +kernel
theorem d_X_may_25 : decode b_X_may 25 = .ok (.goto 4, 3) := by decide +kernel
theorem d_X_may_28 : decode b_X_may 28 = .ok (.iconst 0, 1) := by decide +kernel
theorem d_X_may_29 : decode b_X_may 29 = .ok (.ireturn, 1) := by decide +kernel
theorem d_X_said_0 : decode b_X_said 0 = .ok (.iload_n 1, 1) := by decide +kernel
theorem d_X_said_1 : decode b_X_said 1 = .ok (.ifCond .ge 5, 3) := by decide +kernel
theorem d_X_said_4 : decode b_X_said 4 = .ok (.iconst (-1), 1) := by decide +kernel
theorem d_X_said_5 : decode b_X_said 5 = .ok (.ireturn, 1) := by decide +kernel
theorem d_X_said_6 : decode b_X_said 6 = .ok (.iload_n 1, 1) := by decide +kernel
theorem d_X_said_7 : decode b_X_said 7 = .ok (.aload_n 0, 1) := by decide +kernel
theorem d_X_said_8 : decode b_X_said 8 = .ok (.getfield 21, 3) := by decide +kernel
theorem d_X_said_11 : decode b_X_said 11 = .ok (.getfield 147, 3) := by decide +kernel
theorem d_X_said_14 : decode b_X_said 14 = .ok (.if_icmp .ge 15, 3) := by decide +kernel
theorem d_X_said_17 : decode b_X_said 17 = .ok (.aload_n 0, 1) := by decide +kernel
theorem d_X_said_18 : decode b_X_said 18 = .ok (.getfield 21, 3) := by decide +kernel
theorem d_X_said_21 : decode b_X_said 21 = .ok (.getfield 204, 3) := by decide +kernel
theorem d_X_said_24 : decode b_X_said 24 = .ok (.iload_n 1, 1) := by decide +kernel
theorem d_X_said_25 : decode b_X_said 25 = .ok (.iaload, 1) := by decide +kernel
theorem d_X_said_26 : decode b_X_said 26 = .ok (.goto 8, 3) := by decide +kernel
theorem d_X_said_29 : decode b_X_said 29 = .ok (.aload_n 0, 1) := by decide +kernel
theorem d_X_said_30 : decode b_X_said 30 = .ok (.iconst 2, 1) := by decide +kernel
theorem d_X_said_31 : decode b_X_said 31 = .ok (.invokevirtual 114, 3) := by decide +kernel
theorem d_X_said_34 : decode b_X_said 34 = .ok (.ireturn, 1) := by decide +kernel
theorem d_X_undo_0 : decode b_X_undo 0 = .ok (.iload_n 1, 1) := by decide +kernel
theorem d_X_undo_1 : decode b_X_undo 1 = .ok (.ifCond .lt 14, 3) := by decide +kernel
theorem d_X_undo_4 : decode b_X_undo 4 = .ok (.iload_n 1, 1) := by decide +kernel
theorem d_X_undo_5 : decode b_X_undo 5 = .ok (.aload_n 0, 1) := by decide +kernel
theorem d_X_undo_6 : decode b_X_undo 6 = .ok (.getfield 21, 3) := by decide +kernel
theorem d_X_undo_9 : decode b_X_undo 9 = .ok (.getfield 147, 3) := by decide +kernel
theorem d_X_undo_12 : decode b_X_undo 12 = .ok (.if_icmp .le 5, 3) := by decide +kernel
theorem d_X_undo_15 : decode b_X_undo 15 = .ok (.iconst (-1), 1) := by decide +kernel
theorem d_X_undo_16 : decode b_X_undo 16 = .ok (.ireturn, 1) := by decide +kernel
theorem d_X_undo_17 : decode b_X_undo 17 = .ok (.aload_n 0, 1) := by decide +kernel
theorem d_X_undo_18 : decode b_X_undo 18 = .ok (.getfield 21, 3) := by decide +kernel
theorem d_X_undo_21 : decode b_X_undo 21 = .ok (.getfield 147, 3) := by decide +kernel
theorem d_X_undo_24 : decode b_X_undo 24 = .ok (.iload_n 1, 1) := by decide +kernel
theorem d_X_undo_25 : decode b_X_undo 25 = .ok (.isub, 1) := by decide +kernel
theorem d_X_undo_26 : decode b_X_undo 26 = .ok (.istore_n 2, 1) := by decide +kernel
theorem d_X_undo_27 : decode b_X_undo 27 = .ok (.aload_n 0, 1) := by decide +kernel
theorem d_X_undo_28 : decode b_X_undo 28 = .ok (.getfield 21, 3) := by decide +kernel
theorem d_X_undo_31 : decode b_X_undo 31 = .ok (.iload_n 1, 1) := by decide +kernel
theorem d_X_undo_32 : decode b_X_undo 32 = .ok (.invokevirtual 207, 3) := by decide +kernel
theorem d_X_undo_35 : decode b_X_undo 35 = .ok (.iload_n 2, 1) := by decide +kernel
theorem d_X_undo_36 : decode b_X_undo 36 = .ok (.ireturn, 1) := by decide +kernel
theorem d_Gm_cut_0 : decode b_Gm_cut 0 = .ok (.aload_n 0, 1) := by decide +kernel
theorem d_Gm_cut_1 : decode b_Gm_cut 1 = .ok (.iload_n 1, 1) := by decide +kernel
theorem d_Gm_cut_2 : decode b_Gm_cut 2 = .ok (.putfield 23, 3) := by decide +kernel
theorem d_Gm_cut_5 : decode b_Gm_cut 5 = .ok (.aload_n 0, 1) := by decide +kernel
theorem d_Gm_cut_6 : decode b_Gm_cut 6 = .ok (.aload_n 0, 1) := by decide +kernel
theorem d_Gm_cut_7 : decode b_Gm_cut 7 = .ok (.bipush (-9), 2) := by decide +kernel
theorem d_Gm_cut_9 : decode b_Gm_cut 9 = .ok (.invokevirtual 34, 3) := by decide +kernel
theorem d_Gm_cut_12 : decode b_Gm_cut 12 = .ok (.putfield 15, 3) := by decide +kernel
theorem d_Gm_cut_15 : decode b_Gm_cut 15 = .ok (.return_, 1) := by decide +kernel
theorem d_Gm_reachedWithout_0 : decode b_Gm_reachedWithout 0 = .ok (.lconst 1, 1) := by decide +kernel
theorem d_Gm_reachedWithout_1 : decode b_Gm_reachedWithout 1 = .ok (.lstore_n 2, 1) := by decide +kernel
theorem d_Gm_reachedWithout_2 : decode b_Gm_reachedWithout 2 = .ok (.iconst 0, 1) := by decide +kernel
theorem d_Gm_reachedWithout_3 : decode b_Gm_reachedWithout 3 = .ok (.istore 4, 2) := by decide +kernel
theorem d_Gm_reachedWithout_5 : decode b_Gm_reachedWithout 5 = .ok (.iload 4, 2) := by decide +kernel
theorem d_Gm_reachedWithout_7 : decode b_Gm_reachedWithout 7 = .ok (.aload_n 0, 1) := by decide +kernel
theorem d_Gm_reachedWithout_8 : decode b_Gm_reachedWithout 8 = .ok (.getfield 23, 3) := by decide +kernel
theorem d_Gm_reachedWithout_11 : decode b_Gm_reachedWithout 11 = .ok (.if_icmp .ge 31, 3) := by decide +kernel
theorem d_Gm_reachedWithout_14 : decode b_Gm_reachedWithout 14 = .ok (.iload 4, 2) := by decide +kernel
theorem d_Gm_reachedWithout_16 : decode b_Gm_reachedWithout 16 = .ok (.iload_n 1, 1) := by decide +kernel
theorem d_Gm_reachedWithout_17 : decode b_Gm_reachedWithout 17 = .ok (.if_icmp .eq 19, 3) := by decide +kernel
theorem d_Gm_reachedWithout_20 : decode b_Gm_reachedWithout 20 = .ok (.aload_n 0, 1) := by decide +kernel
theorem d_Gm_reachedWithout_21 : decode b_Gm_reachedWithout 21 = .ok (.getfield 19, 3) := by decide +kernel
theorem d_Gm_reachedWithout_24 : decode b_Gm_reachedWithout 24 = .ok (.lload_n 2, 1) := by decide +kernel
theorem d_Gm_reachedWithout_25 : decode b_Gm_reachedWithout 25 = .ok (.aload_n 0, 1) := by decide +kernel
theorem d_Gm_reachedWithout_26 : decode b_Gm_reachedWithout 26 = .ok (.getfield 9, 3) := by decide +kernel
theorem d_Gm_reachedWithout_29 : decode b_Gm_reachedWithout 29 = .ok (.iload 4, 2) := by decide +kernel
theorem d_Gm_reachedWithout_31 : decode b_Gm_reachedWithout 31 = .ok (.iaload, 1) := by decide +kernel
theorem d_Gm_reachedWithout_32 : decode b_Gm_reachedWithout 32 = .ok (.invokestatic 82, 3) := by decide +kernel
theorem d_Gm_reachedWithout_35 : decode b_Gm_reachedWithout 35 = .ok (.lstore_n 2, 1) := by decide +kernel
theorem d_Gm_reachedWithout_36 : decode b_Gm_reachedWithout 36 = .ok (.iinc 4 1, 3) := by decide +kernel
theorem d_Gm_reachedWithout_39 : decode b_Gm_reachedWithout 39 = .ok (.goto (-34), 3) := by decide +kernel
theorem d_Gm_reachedWithout_42 : decode b_Gm_reachedWithout 42 = .ok (.lload_n 2, 1) := by decide +kernel
theorem d_Gm_reachedWithout_43 : decode b_Gm_reachedWithout 43 = .ok (.lreturn, 1) := by decide +kernel
theorem d_X_turn_0 : decode b_X_turn 0 = .ok (.aload_n 0, 1) := by decide +kernel
theorem d_X_turn_1 : decode b_X_turn 1 = .ok (.aload_n 0, 1) := by decide +kernel
theorem d_X_turn_2 : decode b_X_turn 2 = .ok (.getfield 21, 3) := by decide +kernel
theorem d_X_turn_5 : decode b_X_turn 5 = .ok (.invokevirtual 210, 3) := by decide +kernel
theorem d_X_turn_8 : decode b_X_turn 8 = .ok (.putfield 99, 3) := by decide +kernel
theorem d_X_turn_11 : decode b_X_turn 11 = .ok (.aload_n 0, 1) := by decide +kernel
theorem d_X_turn_12 : decode b_X_turn 12 = .ok (.getfield 21, 3) := by decide +kernel
theorem d_X_turn_15 : decode b_X_turn 15 = .ok (.getfield 147, 3) := by decide +kernel
theorem d_X_turn_18 : decode b_X_turn 18 = .ok (.iconst 2, 1) := by decide +kernel
theorem d_X_turn_19 : decode b_X_turn 19 = .ok (.irem, 1) := by decide +kernel
theorem d_X_turn_20 : decode b_X_turn 20 = .ok (.ireturn, 1) := by decide +kernel
theorem d_Gm_loser_0 : decode b_Gm_loser 0 = .ok (.aload_n 0, 1) := by decide +kernel
theorem d_Gm_loser_1 : decode b_Gm_loser 1 = .ok (.invokevirtual 76, 3) := by decide +kernel
theorem d_Gm_loser_4 : decode b_Gm_loser 4 = .ok (.ifCond .ne 6, 3) := by decide +kernel
theorem d_Gm_loser_7 : decode b_Gm_loser 7 = .ok (.bipush (-9), 2) := by decide +kernel
theorem d_Gm_loser_9 : decode b_Gm_loser 9 = .ok (.ireturn, 1) := by decide +kernel
theorem d_Gm_loser_10 : decode b_Gm_loser 10 = .ok (.aload_n 0, 1) := by decide +kernel
theorem d_Gm_loser_11 : decode b_Gm_loser 11 = .ok (.invokevirtual 72, 3) := by decide +kernel
theorem d_Gm_loser_14 : decode b_Gm_loser 14 = .ok (.iconst 1, 1) := by decide +kernel
theorem d_Gm_loser_15 : decode b_Gm_loser 15 = .ok (.if_icmp .ne 14, 3) := by decide +kernel
theorem d_Gm_loser_18 : decode b_Gm_loser 18 = .ok (.aload_n 0, 1) := by decide +kernel
theorem d_Gm_loser_19 : decode b_Gm_loser 19 = .ok (.getfield 23, 3) := by decide +kernel
theorem d_Gm_loser_22 : decode b_Gm_loser 22 = .ok (.iconst 1, 1) := by decide +kernel
theorem d_Gm_loser_23 : decode b_Gm_loser 23 = .ok (.isub, 1) := by decide +kernel
theorem d_Gm_loser_24 : decode b_Gm_loser 24 = .ok (.iconst 2, 1) := by decide +kernel
theorem d_Gm_loser_25 : decode b_Gm_loser 25 = .ok (.irem, 1) := by decide +kernel
theorem d_Gm_loser_26 : decode b_Gm_loser 26 = .ok (.goto 9, 3) := by decide +kernel
theorem d_Gm_loser_29 : decode b_Gm_loser 29 = .ok (.aload_n 0, 1) := by decide +kernel
theorem d_Gm_loser_30 : decode b_Gm_loser 30 = .ok (.getfield 23, 3) := by decide +kernel
theorem d_Gm_loser_33 : decode b_Gm_loser 33 = .ok (.iconst 2, 1) := by decide +kernel
theorem d_Gm_loser_34 : decode b_Gm_loser 34 = .ok (.irem, 1) := by decide +kernel
theorem d_Gm_loser_35 : decode b_Gm_loser 35 = .ok (.ireturn, 1) := by decide +kernel
theorem d_X_keep_0 : decode b_X_keep 0 = .ok (.iload_n 1, 1) := by decide +kernel
theorem d_X_keep_1 : decode b_X_keep 1 = .ok (.iconst 3, 1) := by decide +kernel
theorem d_X_keep_2 : decode b_X_keep 2 = .ok (.invokestatic 110, 3) := by decide +kernel
theorem d_X_keep_5 : decode b_X_keep 5 = .ok (.ifCond .ne 5, 3) := by decide +kernel
theorem d_X_keep_8 : decode b_X_keep 8 = .ok (.iconst (-1), 1) := by decide +kernel
theorem d_X_keep_9 : decode b_X_keep 9 = .ok (.ireturn, 1) := by decide +kernel
theorem d_X_keep_10 : decode b_X_keep 10 = .ok (.aload_n 0, 1) := by decide +kernel
theorem d_X_keep_11 : decode b_X_keep 11 = .ok (.getfield 25, 3) := by decide +kernel
theorem d_X_keep_14 : decode b_X_keep 14 = .ok (.iload_n 1, 1) := by decide +kernel
theorem d_X_keep_15 : decode b_X_keep 15 = .ok (.aaload, 1) := by decide +kernel
theorem d_X_keep_16 : decode b_X_keep 16 = .ok (.aload_n 0, 1) := by decide +kernel
theorem d_X_keep_17 : decode b_X_keep 17 = .ok (.getfield 21, 3) := by decide +kernel
theorem d_X_keep_20 : decode b_X_keep 20 = .ok (.invokevirtual 138, 3) := by decide +kernel
theorem d_X_keep_23 : decode b_X_keep 23 = .ok (.aload_n 0, 1) := by decide +kernel
theorem d_X_keep_24 : decode b_X_keep 24 = .ok (.getfield 29, 3) := by decide +kernel
theorem d_X_keep_27 : decode b_X_keep 27 = .ok (.iload_n 1, 1) := by decide +kernel
theorem d_X_keep_28 : decode b_X_keep 28 = .ok (.iconst 1, 1) := by decide +kernel
theorem d_X_keep_29 : decode b_X_keep 29 = .ok (.bastore, 1) := by decide +kernel
theorem d_X_keep_30 : decode b_X_keep 30 = .ok (.aload_n 0, 1) := by decide +kernel
theorem d_X_keep_31 : decode b_X_keep 31 = .ok (.getfield 21, 3) := by decide +kernel
theorem d_X_keep_34 : decode b_X_keep 34 = .ok (.getfield 147, 3) := by decide +kernel
theorem d_X_keep_37 : decode b_X_keep 37 = .ok (.ireturn, 1) := by decide +kernel
theorem d_X_on_0 : decode b_X_on 0 = .ok (.iload_n 1, 1) := by decide +kernel
theorem d_X_on_1 : decode b_X_on 1 = .ok (.iconst 3, 1) := by decide +kernel
theorem d_X_on_2 : decode b_X_on 2 = .ok (.invokestatic 110, 3) := by decide +kernel
theorem d_X_on_5 : decode b_X_on 5 = .ok (.ifCond .ne 5, 3) := by decide +kernel
theorem d_X_on_8 : decode b_X_on 8 = .ok (.iconst (-1), 1) := by decide +kernel
theorem d_X_on_9 : decode b_X_on 9 = .ok (.ireturn, 1) := by decide +kernel
theorem d_X_on_10 : decode b_X_on 10 = .ok (.aload_n 0, 1) := by decide +kernel
theorem d_X_on_11 : decode b_X_on 11 = .ok (.getfield 29, 3) := by decide +kernel
theorem d_X_on_14 : decode b_X_on 14 = .ok (.iload_n 1, 1) := by decide +kernel
theorem d_X_on_15 : decode b_X_on 15 = .ok (.baload, 1) := by decide +kernel
theorem d_X_on_16 : decode b_X_on 16 = .ok (.ifCond .ne 9, 3) := by decide +kernel
theorem d_X_on_19 : decode b_X_on 19 = .ok (.aload_n 0, 1) := by decide +kernel
theorem d_X_on_20 : decode b_X_on 20 = .ok (.iconst 1, 1) := by decide +kernel
theorem d_X_on_21 : decode b_X_on 21 = .ok (.invokevirtual 114, 3) := by decide +kernel
theorem d_X_on_24 : decode b_X_on 24 = .ok (.ireturn, 1) := by decide +kernel
theorem d_X_on_25 : decode b_X_on 25 = .ok (.aload_n 0, 1) := by decide +kernel
theorem d_X_on_26 : decode b_X_on 26 = .ok (.getfield 21, 3) := by decide +kernel
theorem d_X_on_29 : decode b_X_on 29 = .ok (.aload_n 0, 1) := by decide +kernel
theorem d_X_on_30 : decode b_X_on 30 = .ok (.getfield 25, 3) := by decide +kernel
theorem d_X_on_33 : decode b_X_on 33 = .ok (.iload_n 1, 1) := by decide +kernel
theorem d_X_on_34 : decode b_X_on 34 = .ok (.aaload, 1) := by decide +kernel
theorem d_X_on_35 : decode b_X_on 35 = .ok (.invokevirtual 138, 3) := by decide +kernel
theorem d_X_on_38 : decode b_X_on 38 = .ok (.aload_n 0, 1) := by decide +kernel
theorem d_X_on_39 : decode b_X_on 39 = .ok (.getfield 21, 3) := by decide +kernel
theorem d_X_on_42 : decode b_X_on 42 = .ok (.getfield 147, 3) := by decide +kernel
theorem d_X_on_45 : decode b_X_on 45 = .ok (.ireturn, 1) := by decide +kernel
theorem d_X_had_0 : decode b_X_had 0 = .ok (.iload_n 1, 1) := by decide +kernel
theorem d_X_had_1 : decode b_X_had 1 = .ok (.iconst 1, 1) := by decide +kernel
theorem d_X_had_2 : decode b_X_had 2 = .ok (.if_icmp .lt 10, 3) := by decide +kernel
theorem d_X_had_5 : decode b_X_had 5 = .ok (.iload_n 1, 1) := by decide +kernel
theorem d_X_had_6 : decode b_X_had 6 = .ok (.sipush 4000, 3) := by decide +kernel
theorem d_X_had_9 : decode b_X_had 9 = .ok (.if_icmp .le 5, 3) := by decide +kernel
theorem d_X_had_12 : decode b_X_had 12 = .ok (.iconst (-1), 1) := by decide +kernel
theorem d_X_had_13 : decode b_X_had 13 = .ok (.ireturn, 1) := by decide +kernel
theorem d_X_had_14 : decode b_X_had 14 = .ok (.aload_n 0, 1) := by decide +kernel
theorem d_X_had_15 : decode b_X_had 15 = .ok (.getfield 21, 3) := by decide +kernel
theorem d_X_had_18 : decode b_X_had 18 = .ok (.getfield 148, 3) := by decide +kernel
theorem d_X_had_21 : decode b_X_had 21 = .ok (.iconst 1, 1) := by decide +kernel
theorem d_X_had_22 : decode b_X_had 22 = .ok (.if_icmp .ne 33, 3) := by decide +kernel
theorem d_X_had_25 : decode b_X_had 25 = .ok (.aload_n 0, 1) := by decide +kernel
theorem d_X_had_26 : decode b_X_had 26 = .ok (.getfield 21, 3) := by decide +kernel
theorem d_X_had_29 : decode b_X_had 29 = .ok (.invokevirtual 213, 3) := by decide +kernel
theorem d_X_had_32 : decode b_X_had 32 = .ok (.istore_n 2, 1) := by decide +kernel
theorem d_X_had_33 : decode b_X_had 33 = .ok (.aload_n 0, 1) := by decide +kernel
theorem d_X_had_34 : decode b_X_had 34 = .ok (.bipush (-9), 2) := by decide +kernel
theorem d_X_had_36 : decode b_X_had 36 = .ok (.putfield 99, 3) := by decide +kernel
theorem d_X_had_39 : decode b_X_had 39 = .ok (.iload_n 2, 1) := by decide +kernel
theorem d_X_had_40 : decode b_X_had 40 = .ok (.ifCond .le 13, 3) := by decide +kernel
theorem d_X_had_43 : decode b_X_had 43 = .ok (.iload_n 1, 1) := by decide +kernel
theorem d_X_had_44 : decode b_X_had 44 = .ok (.iload_n 2, 1) := by decide +kernel
theorem d_X_had_45 : decode b_X_had 45 = .ok (.irem, 1) := by decide +kernel
theorem d_X_had_46 : decode b_X_had 46 = .ok (.ifCond .ne 7, 3) := by decide +kernel
theorem d_X_had_49 : decode b_X_had 49 = .ok (.iconst 1, 1) := by decide +kernel
theorem d_X_had_50 : decode b_X_had 50 = .ok (.goto 4, 3) := by decide +kernel
theorem d_X_had_53 : decode b_X_had 53 = .ok (.iconst 0, 1) := by decide +kernel
theorem d_X_had_54 : decode b_X_had 54 = .ok (.ireturn, 1) := by decide +kernel
theorem d_X_had_55 : decode b_X_had 55 = .ok (.aload_n 0, 1) := by decide +kernel
theorem d_X_had_56 : decode b_X_had 56 = .ok (.getfield 69, 3) := by decide +kernel
theorem d_X_had_59 : decode b_X_had 59 = .ok (.aload_n 0, 1) := by decide +kernel
theorem d_X_had_60 : decode b_X_had 60 = .ok (.getfield 21, 3) := by decide +kernel
theorem d_X_had_63 : decode b_X_had 63 = .ok (.iload_n 1, 1) := by decide +kernel
theorem d_X_had_64 : decode b_X_had 64 = .ok (.invokevirtual 216, 3) := by decide +kernel
theorem d_X_had_67 : decode b_X_had 67 = .ok (.istore_n 2, 1) := by decide +kernel
theorem d_X_had_68 : decode b_X_had 68 = .ok (.aload_n 0, 1) := by decide +kernel
theorem d_X_had_69 : decode b_X_had 69 = .ok (.iload_n 2, 1) := by decide +kernel
theorem d_X_had_70 : decode b_X_had 70 = .ok (.ldc 220, 2) := by decide +kernel
theorem d_X_had_72 : decode b_X_had 72 = .ok (.if_icmp .ge 7, 3) := by decide +kernel
theorem d_X_had_75 : decode b_X_had 75 = .ok (.iload_n 2, 1) := by decide +kernel
theorem d_X_had_76 : decode b_X_had 76 = .ok (.goto 5, 3) := by decide +kernel
theorem d_X_had_79 : decode b_X_had 79 = .ok (.bipush (-9), 2) := by decide +kernel
theorem d_X_had_81 : decode b_X_had 81 = .ok (.putfield 99, 3) := by decide +kernel
theorem d_X_had_84 : decode b_X_had 84 = .ok (.iload_n 2, 1) := by decide +kernel
theorem d_X_had_85 : decode b_X_had 85 = .ok (.ldc 220, 2) := by decide +kernel
theorem d_X_had_87 : decode b_X_had 87 = .ok (.if_icmp .ge 7, 3) := by decide +kernel
theorem d_X_had_90 : decode b_X_had 90 = .ok (.iconst 1, 1) := by decide +kernel
theorem d_X_had_91 : decode b_X_had 91 = .ok (.goto 4, 3) := by decide +kernel
theorem d_X_had_94 : decode b_X_had 94 = .ok (.iconst 0, 1) := by decide +kernel
theorem d_X_had_95 : decode b_X_had 95 = .ok (.ireturn, 1) := by decide +kernel
theorem d_Gm_divisor_0 : decode b_Gm_divisor 0 = .ok (.iconst 0, 1) := by decide +kernel
theorem d_Gm_divisor_1 : decode b_Gm_divisor 1 = .ok (.istore_n 1, 1) := by decide +kernel
theorem d_Gm_divisor_2 : decode b_Gm_divisor 2 = .ok (.iconst 0, 1) := by decide +kernel
theorem d_Gm_divisor_3 : decode b_Gm_divisor 3 = .ok (.istore_n 2, 1) := by decide +kernel
theorem d_Gm_divisor_4 : decode b_Gm_divisor 4 = .ok (.iload_n 2, 1) := by decide +kernel
theorem d_Gm_divisor_5 : decode b_Gm_divisor 5 = .ok (.aload_n 0, 1) := by decide +kernel
theorem d_Gm_divisor_6 : decode b_Gm_divisor 6 = .ok (.getfield 23, 3) := by decide +kernel
theorem d_Gm_divisor_9 : decode b_Gm_divisor 9 = .ok (.if_icmp .ge 20, 3) := by decide +kernel
theorem d_Gm_divisor_12 : decode b_Gm_divisor 12 = .ok (.iload_n 1, 1) := by decide +kernel
theorem d_Gm_divisor_13 : decode b_Gm_divisor 13 = .ok (.aload_n 0, 1) := by decide +kernel
theorem d_Gm_divisor_14 : decode b_Gm_divisor 14 = .ok (.getfield 9, 3) := by decide +kernel
theorem d_Gm_divisor_17 : decode b_Gm_divisor 17 = .ok (.iload_n 2, 1) := by decide +kernel
theorem d_Gm_divisor_18 : decode b_Gm_divisor 18 = .ok (.iaload, 1) := by decide +kernel
theorem d_Gm_divisor_19 : decode b_Gm_divisor 19 = .ok (.invokestatic 43, 3) := by decide +kernel
theorem d_Gm_divisor_22 : decode b_Gm_divisor 22 = .ok (.istore_n 1, 1) := by decide +kernel
theorem d_Gm_divisor_23 : decode b_Gm_divisor 23 = .ok (.iinc 2 1, 3) := by decide +kernel
theorem d_Gm_divisor_26 : decode b_Gm_divisor 26 = .ok (.goto (-22), 3) := by decide +kernel
theorem d_Gm_divisor_29 : decode b_Gm_divisor 29 = .ok (.iload_n 1, 1) := by decide +kernel
theorem d_Gm_divisor_30 : decode b_Gm_divisor 30 = .ok (.ireturn, 1) := by decide +kernel
theorem d_Su_fewest_0 : decode b_Su_fewest 0 = .ok (.aload_n 0, 1) := by decide +kernel
theorem d_Su_fewest_1 : decode b_Su_fewest 1 = .ok (.getfield 18, 3) := by decide +kernel
theorem d_Su_fewest_4 : decode b_Su_fewest 4 = .ok (.ldc 34, 2) := by decide +kernel
theorem d_Su_fewest_6 : decode b_Su_fewest 6 = .ok (.invokestatic 35, 3) := by decide +kernel
theorem d_Su_fewest_9 : decode b_Su_fewest 9 = .ok (.aload_n 0, 1) := by decide +kernel
theorem d_Su_fewest_10 : decode b_Su_fewest 10 = .ok (.getfield 18, 3) := by decide +kernel
theorem d_Su_fewest_13 : decode b_Su_fewest 13 = .ok (.iconst 0, 1) := by decide +kernel
theorem d_Su_fewest_14 : decode b_Su_fewest 14 = .ok (.iconst 0, 1) := by decide +kernel
theorem d_Su_fewest_15 : decode b_Su_fewest 15 = .ok (.iastore, 1) := by decide +kernel
theorem d_Su_fewest_16 : decode b_Su_fewest 16 = .ok (.iconst 0, 1) := by decide +kernel
theorem d_Su_fewest_17 : decode b_Su_fewest 17 = .ok (.istore_n 3, 1) := by decide +kernel
theorem d_Su_fewest_18 : decode b_Su_fewest 18 = .ok (.iload_n 3, 1) := by decide +kernel
theorem d_Su_fewest_19 : decode b_Su_fewest 19 = .ok (.aload_n 1, 1) := by decide +kernel
theorem d_Su_fewest_20 : decode b_Su_fewest 20 = .ok (.getfield 50, 3) := by decide +kernel
theorem d_Su_fewest_23 : decode b_Su_fewest 23 = .ok (.if_icmp .ge 42, 3) := by decide +kernel
theorem d_Su_fewest_26 : decode b_Su_fewest 26 = .ok (.aload_n 1, 1) := by decide +kernel
theorem d_Su_fewest_27 : decode b_Su_fewest 27 = .ok (.getfield 41, 3) := by decide +kernel
theorem d_Su_fewest_30 : decode b_Su_fewest 30 = .ok (.iconst 2, 1) := by decide +kernel
theorem d_Su_fewest_31 : decode b_Su_fewest 31 = .ok (.if_icmp .ne 17, 3) := by decide +kernel
theorem d_Su_fewest_34 : decode b_Su_fewest 34 = .ok (.aload_n 0, 1) := by decide +kernel
theorem d_Su_fewest_35 : decode b_Su_fewest 35 = .ok (.aload_n 1, 1) := by decide +kernel
theorem d_Su_fewest_36 : decode b_Su_fewest 36 = .ok (.getfield 53, 3) := by decide +kernel
theorem d_Su_fewest_39 : decode b_Su_fewest 39 = .ok (.iload_n 3, 1) := by decide +kernel
theorem d_Su_fewest_40 : decode b_Su_fewest 40 = .ok (.iaload, 1) := by decide +kernel
theorem d_Su_fewest_41 : decode b_Su_fewest 41 = .ok (.iload_n 2, 1) := by decide +kernel
theorem d_Su_fewest_42 : decode b_Su_fewest 42 = .ok (.invokevirtual 70, 3) := by decide +kernel
theorem d_Su_fewest_45 : decode b_Su_fewest 45 = .ok (.goto 14, 3) := by decide +kernel
theorem d_Su_fewest_48 : decode b_Su_fewest 48 = .ok (.aload_n 0, 1) := by decide +kernel
theorem d_Su_fewest_49 : decode b_Su_fewest 49 = .ok (.aload_n 1, 1) := by decide +kernel
theorem d_Su_fewest_50 : decode b_Su_fewest 50 = .ok (.getfield 53, 3) := by decide +kernel
theorem d_Su_fewest_53 : decode b_Su_fewest 53 = .ok (.iload_n 3, 1) := by decide +kernel
theorem d_Su_fewest_54 : decode b_Su_fewest 54 = .ok (.iaload, 1) := by decide +kernel
theorem d_Su_fewest_55 : decode b_Su_fewest 55 = .ok (.iload_n 2, 1) := by decide +kernel
theorem d_Su_fewest_56 : decode b_Su_fewest 56 = .ok (.invokevirtual 74, 3) := by decide +kernel
theorem d_Su_fewest_59 : decode b_Su_fewest 59 = .ok (.iinc 3 1, 3) := by decide +kernel
theorem d_Su_fewest_62 : decode b_Su_fewest 62 = .ok (.goto (-44), 3) := by decide +kernel
theorem d_Su_fewest_65 : decode b_Su_fewest 65 = .ok (.aload_n 0, 1) := by decide +kernel
theorem d_Su_fewest_66 : decode b_Su_fewest 66 = .ok (.getfield 18, 3) := by decide +kernel
theorem d_Su_fewest_69 : decode b_Su_fewest 69 = .ok (.iload_n 2, 1) := by decide +kernel
theorem d_Su_fewest_70 : decode b_Su_fewest 70 = .ok (.iaload, 1) := by decide +kernel
theorem d_Su_fewest_71 : decode b_Su_fewest 71 = .ok (.ireturn, 1) := by decide +kernel
theorem d_Su_takeThrice_0 : decode b_Su_takeThrice 0 = .ok (.iload_n 2, 1) := by decide +kernel
theorem d_Su_takeThrice_1 : decode b_Su_takeThrice 1 = .ok (.istore_n 3, 1) := by decide +kernel
theorem d_Su_takeThrice_2 : decode b_Su_takeThrice 2 = .ok (.iload_n 3, 1) := by decide +kernel
theorem d_Su_takeThrice_3 : decode b_Su_takeThrice 3 = .ok (.iload_n 1, 1) := by decide +kernel
theorem d_Su_takeThrice_4 : decode b_Su_takeThrice 4 = .ok (.if_icmp .lt 61, 3) := by decide +kernel
theorem d_Su_takeThrice_7 : decode b_Su_takeThrice 7 = .ok (.iconst 1, 1) := by decide +kernel
theorem d_Su_takeThrice_8 : decode b_Su_takeThrice 8 = .ok (.istore 4, 2) := by decide +kernel
theorem d_Su_takeThrice_10 : decode b_Su_takeThrice 10 = .ok (.iload 4, 2) := by decide +kernel
theorem d_Su_takeThrice_12 : decode b_Su_takeThrice 12 = .ok (.iconst 3, 1) := by decide +kernel
theorem d_Su_takeThrice_13 : decode b_Su_takeThrice 13 = .ok (.if_icmp .gt 46, 3) := by decide +kernel
theorem d_Su_takeThrice_16 : decode b_Su_takeThrice 16 = .ok (.iload 4, 2) := by decide +kernel
theorem d_Su_takeThrice_18 : decode b_Su_takeThrice 18 = .ok (.iload_n 1, 1) := by decide +kernel
theorem d_Su_takeThrice_19 : decode b_Su_takeThrice 19 = .ok (.imul, 1) := by decide +kernel
theorem d_Su_takeThrice_20 : decode b_Su_takeThrice 20 = .ok (.iload_n 3, 1) := by decide +kernel
theorem d_Su_takeThrice_21 : decode b_Su_takeThrice 21 = .ok (.if_icmp .gt 38, 3) := by decide +kernel
theorem d_Su_takeThrice_24 : decode b_Su_takeThrice 24 = .ok (.aload_n 0, 1) := by decide +kernel
theorem d_Su_takeThrice_25 : decode b_Su_takeThrice 25 = .ok (.getfield 18, 3) := by decide +kernel
theorem d_Su_takeThrice_28 : decode b_Su_takeThrice 28 = .ok (.iload_n 3, 1) := by decide +kernel
theorem d_Su_takeThrice_29 : decode b_Su_takeThrice 29 = .ok (.aload_n 0, 1) := by decide +kernel
theorem d_Su_takeThrice_30 : decode b_Su_takeThrice 30 = .ok (.getfield 18, 3) := by decide +kernel
theorem d_Su_takeThrice_33 : decode b_Su_takeThrice 33 = .ok (.iload_n 3, 1) := by decide +kernel
theorem d_Su_takeThrice_34 : decode b_Su_takeThrice 34 = .ok (.iaload, 1) := by decide +kernel
theorem d_Su_takeThrice_35 : decode b_Su_takeThrice 35 = .ok (.aload_n 0, 1) := by decide +kernel
theorem d_Su_takeThrice_36 : decode b_Su_takeThrice 36 = .ok (.getfield 18, 3) := by decide +kernel
theorem d_Su_takeThrice_39 : decode b_Su_takeThrice 39 = .ok (.iload_n 3, 1) := by decide +kernel
theorem d_Su_takeThrice_40 : decode b_Su_takeThrice 40 = .ok (.iload 4, 2) := by decide +kernel
theorem d_Su_takeThrice_42 : decode b_Su_takeThrice 42 = .ok (.iload_n 1, 1) := by decide +kernel
theorem d_Su_takeThrice_43 : decode b_Su_takeThrice 43 = .ok (.imul, 1) := by decide +kernel
theorem d_Su_takeThrice_44 : decode b_Su_takeThrice 44 = .ok (.isub, 1) := by decide +kernel
theorem d_Su_takeThrice_45 : decode b_Su_takeThrice 45 = .ok (.iaload, 1) := by decide +kernel
theorem d_Su_takeThrice_46 : decode b_Su_takeThrice 46 = .ok (.iload 4, 2) := by decide +kernel
theorem d_Su_takeThrice_48 : decode b_Su_takeThrice 48 = .ok (.iadd, 1) := by decide +kernel
theorem d_Su_takeThrice_49 : decode b_Su_takeThrice 49 = .ok (.invokestatic 80, 3) := by decide +kernel
theorem d_Su_takeThrice_52 : decode b_Su_takeThrice 52 = .ok (.iastore, 1) := by decide +kernel
theorem d_Su_takeThrice_53 : decode b_Su_takeThrice 53 = .ok (.iinc 4 1, 3) := by decide +kernel
theorem d_Su_takeThrice_56 : decode b_Su_takeThrice 56 = .ok (.goto (-46), 3) := by decide +kernel
theorem d_Su_takeThrice_59 : decode b_Su_takeThrice 59 = .ok (.iinc 3 (-1), 3) := by decide +kernel
theorem d_Su_takeThrice_62 : decode b_Su_takeThrice 62 = .ok (.goto (-60), 3) := by decide +kernel
theorem d_Su_takeThrice_65 : decode b_Su_takeThrice 65 = .ok (.return_, 1) := by decide +kernel
theorem d_Su_takeOften_0 : decode b_Su_takeOften 0 = .ok (.iload_n 1, 1) := by decide +kernel
theorem d_Su_takeOften_1 : decode b_Su_takeOften 1 = .ok (.istore_n 3, 1) := by decide +kernel
theorem d_Su_takeOften_2 : decode b_Su_takeOften 2 = .ok (.iload_n 3, 1) := by decide +kernel
theorem d_Su_takeOften_3 : decode b_Su_takeOften 3 = .ok (.iload_n 2, 1) := by decide +kernel
theorem d_Su_takeOften_4 : decode b_Su_takeOften 4 = .ok (.if_icmp .gt 34, 3) := by decide +kernel
theorem d_Su_takeOften_7 : decode b_Su_takeOften 7 = .ok (.aload_n 0, 1) := by decide +kernel
theorem d_Su_takeOften_8 : decode b_Su_takeOften 8 = .ok (.getfield 18, 3) := by decide +kernel
theorem d_Su_takeOften_11 : decode b_Su_takeOften 11 = .ok (.iload_n 3, 1) := by decide +kernel
theorem d_Su_takeOften_12 : decode b_Su_takeOften 12 = .ok (.aload_n 0, 1) := by decide +kernel
theorem d_Su_takeOften_13 : decode b_Su_takeOften 13 = .ok (.getfield 18, 3) := by decide +kernel
theorem d_Su_takeOften_16 : decode b_Su_takeOften 16 = .ok (.iload_n 3, 1) := by decide +kernel
theorem d_Su_takeOften_17 : decode b_Su_takeOften 17 = .ok (.iaload, 1) := by decide +kernel
theorem d_Su_takeOften_18 : decode b_Su_takeOften 18 = .ok (.aload_n 0, 1) := by decide +kernel
theorem d_Su_takeOften_19 : decode b_Su_takeOften 19 = .ok (.getfield 18, 3) := by decide +kernel
theorem d_Su_takeOften_22 : decode b_Su_takeOften 22 = .ok (.iload_n 3, 1) := by decide +kernel
theorem d_Su_takeOften_23 : decode b_Su_takeOften 23 = .ok (.iload_n 1, 1) := by decide +kernel
theorem d_Su_takeOften_24 : decode b_Su_takeOften 24 = .ok (.isub, 1) := by decide +kernel
theorem d_Su_takeOften_25 : decode b_Su_takeOften 25 = .ok (.iaload, 1) := by decide +kernel
theorem d_Su_takeOften_26 : decode b_Su_takeOften 26 = .ok (.iconst 1, 1) := by decide +kernel
theorem d_Su_takeOften_27 : decode b_Su_takeOften 27 = .ok (.iadd, 1) := by decide +kernel
theorem d_Su_takeOften_28 : decode b_Su_takeOften 28 = .ok (.invokestatic 80, 3) := by decide +kernel
theorem d_Su_takeOften_31 : decode b_Su_takeOften 31 = .ok (.iastore, 1) := by decide +kernel
theorem d_Su_takeOften_32 : decode b_Su_takeOften 32 = .ok (.iinc 3 1, 3) := by decide +kernel
theorem d_Su_takeOften_35 : decode b_Su_takeOften 35 = .ok (.goto (-33), 3) := by decide +kernel
theorem d_Su_takeOften_38 : decode b_Su_takeOften 38 = .ok (.return_, 1) := by decide +kernel
theorem d_X_ways_0 : decode b_X_ways 0 = .ok (.iload_n 1, 1) := by decide +kernel
theorem d_X_ways_1 : decode b_X_ways 1 = .ok (.iconst 1, 1) := by decide +kernel
theorem d_X_ways_2 : decode b_X_ways 2 = .ok (.if_icmp .lt 10, 3) := by decide +kernel
theorem d_X_ways_5 : decode b_X_ways 5 = .ok (.iload_n 1, 1) := by decide +kernel
theorem d_X_ways_6 : decode b_X_ways 6 = .ok (.sipush 400, 3) := by decide +kernel
theorem d_X_ways_9 : decode b_X_ways 9 = .ok (.if_icmp .le 5, 3) := by decide +kernel
theorem d_X_ways_12 : decode b_X_ways 12 = .ok (.iconst (-1), 1) := by decide +kernel
theorem d_X_ways_13 : decode b_X_ways 13 = .ok (.ireturn, 1) := by decide +kernel
theorem d_X_ways_14 : decode b_X_ways 14 = .ok (.aload_n 0, 1) := by decide +kernel
theorem d_X_ways_15 : decode b_X_ways 15 = .ok (.getfield 21, 3) := by decide +kernel
theorem d_X_ways_18 : decode b_X_ways 18 = .ok (.getfield 148, 3) := by decide +kernel
theorem d_X_ways_21 : decode b_X_ways 21 = .ok (.ifCond .eq 6, 3) := by decide +kernel
theorem d_X_ways_24 : decode b_X_ways 24 = .ok (.bipush (-4), 2) := by decide +kernel
theorem d_X_ways_26 : decode b_X_ways 26 = .ok (.ireturn, 1) := by decide +kernel
theorem d_X_ways_27 : decode b_X_ways 27 = .ok (.aload_n 0, 1) := by decide +kernel
theorem d_X_ways_28 : decode b_X_ways 28 = .ok (.aload_n 0, 1) := by decide +kernel
theorem d_X_ways_29 : decode b_X_ways 29 = .ok (.getfield 69, 3) := by decide +kernel
theorem d_X_ways_32 : decode b_X_ways 32 = .ok (.aload_n 0, 1) := by decide +kernel
theorem d_X_ways_33 : decode b_X_ways 33 = .ok (.getfield 21, 3) := by decide +kernel
theorem d_X_ways_36 : decode b_X_ways 36 = .ok (.iload_n 1, 1) := by decide +kernel
theorem d_X_ways_37 : decode b_X_ways 37 = .ok (.invokevirtual 221, 3) := by decide +kernel
theorem d_X_ways_40 : decode b_X_ways 40 = .ok (.lconst 1, 1) := by decide +kernel
theorem d_X_ways_41 : decode b_X_ways 41 = .ok (.invokevirtual 225, 3) := by decide +kernel
theorem d_X_ways_44 : decode b_X_ways 44 = .ok (.iconst 1, 1) := by decide +kernel
theorem d_X_ways_45 : decode b_X_ways 45 = .ok (.ireturn, 1) := by decide +kernel
theorem d_Su_waysOf_0 : decode b_Su_waysOf 0 = .ok (.aload_n 0, 1) := by decide +kernel
theorem d_Su_waysOf_1 : decode b_Su_waysOf 1 = .ok (.getfield 21, 3) := by decide +kernel
theorem d_Su_waysOf_4 : decode b_Su_waysOf 4 = .ok (.lconst 0, 1) := by decide +kernel
theorem d_Su_waysOf_5 : decode b_Su_waysOf 5 = .ok (.invokestatic 77, 3) := by decide +kernel
theorem d_Su_waysOf_8 : decode b_Su_waysOf 8 = .ok (.aload_n 0, 1) := by decide +kernel
theorem d_Su_waysOf_9 : decode b_Su_waysOf 9 = .ok (.getfield 21, 3) := by decide +kernel
theorem d_Su_waysOf_12 : decode b_Su_waysOf 12 = .ok (.iconst 0, 1) := by decide +kernel
theorem d_Su_waysOf_13 : decode b_Su_waysOf 13 = .ok (.lconst 1, 1) := by decide +kernel
theorem d_Su_waysOf_14 : decode b_Su_waysOf 14 = .ok (.lastore, 1) := by decide +kernel
theorem d_Su_waysOf_15 : decode b_Su_waysOf 15 = .ok (.iconst 0, 1) := by decide +kernel
theorem d_Su_waysOf_16 : decode b_Su_waysOf 16 = .ok (.istore_n 3, 1) := by decide +kernel
theorem d_Su_waysOf_17 : decode b_Su_waysOf 17 = .ok (.iload_n 3, 1) := by decide +kernel
theorem d_Su_waysOf_18 : decode b_Su_waysOf 18 = .ok (.aload_n 1, 1) := by decide +kernel
theorem d_Su_waysOf_19 : decode b_Su_waysOf 19 = .ok (.getfield 50, 3) := by decide +kernel
theorem d_Su_waysOf_22 : decode b_Su_waysOf 22 = .ok (.if_icmp .ge 53, 3) := by decide +kernel
theorem d_Su_waysOf_25 : decode b_Su_waysOf 25 = .ok (.aload_n 1, 1) := by decide +kernel
theorem d_Su_waysOf_26 : decode b_Su_waysOf 26 = .ok (.getfield 53, 3) := by decide +kernel
theorem d_Su_waysOf_29 : decode b_Su_waysOf 29 = .ok (.iload_n 3, 1) := by decide +kernel
theorem d_Su_waysOf_30 : decode b_Su_waysOf 30 = .ok (.iaload, 1) := by decide +kernel
theorem d_Su_waysOf_31 : decode b_Su_waysOf 31 = .ok (.istore 4, 2) := by decide +kernel
theorem d_Su_waysOf_33 : decode b_Su_waysOf 33 = .ok (.iload 4, 2) := by decide +kernel
theorem d_Su_waysOf_35 : decode b_Su_waysOf 35 = .ok (.istore 5, 2) := by decide +kernel
theorem d_Su_waysOf_37 : decode b_Su_waysOf 37 = .ok (.iload 5, 2) := by decide +kernel
theorem d_Su_waysOf_39 : decode b_Su_waysOf 39 = .ok (.iload_n 2, 1) := by decide +kernel
theorem d_Su_waysOf_40 : decode b_Su_waysOf 40 = .ok (.if_icmp .gt 29, 3) := by decide +kernel
theorem d_Su_waysOf_43 : decode b_Su_waysOf 43 = .ok (.aload_n 0, 1) := by decide +kernel
theorem d_Su_waysOf_44 : decode b_Su_waysOf 44 = .ok (.getfield 21, 3) := by decide +kernel
theorem d_Su_waysOf_47 : decode b_Su_waysOf 47 = .ok (.iload 5, 2) := by decide +kernel
theorem d_Su_waysOf_49 : decode b_Su_waysOf 49 = .ok (.dup2, 1) := by decide +kernel
theorem d_Su_waysOf_50 : decode b_Su_waysOf 50 = .ok (.laload, 1) := by decide +kernel
theorem d_Su_waysOf_51 : decode b_Su_waysOf 51 = .ok (.aload_n 0, 1) := by decide +kernel
theorem d_Su_waysOf_52 : decode b_Su_waysOf 52 = .ok (.getfield 21, 3) := by decide +kernel
theorem d_Su_waysOf_55 : decode b_Su_waysOf 55 = .ok (.iload 5, 2) := by decide +kernel
theorem d_Su_waysOf_57 : decode b_Su_waysOf 57 = .ok (.iload 4, 2) := by decide +kernel
theorem d_Su_waysOf_59 : decode b_Su_waysOf 59 = .ok (.isub, 1) := by decide +kernel
theorem d_Su_waysOf_60 : decode b_Su_waysOf 60 = .ok (.laload, 1) := by decide +kernel
theorem d_Su_waysOf_61 : decode b_Su_waysOf 61 = .ok (.ladd, 1) := by decide +kernel
theorem d_Su_waysOf_62 : decode b_Su_waysOf 62 = .ok (.lastore, 1) := by decide +kernel
theorem d_Su_waysOf_63 : decode b_Su_waysOf 63 = .ok (.iinc 5 1, 3) := by decide +kernel
theorem d_Su_waysOf_66 : decode b_Su_waysOf 66 = .ok (.goto (-29), 3) := by decide +kernel
theorem d_Su_waysOf_69 : decode b_Su_waysOf 69 = .ok (.iinc 3 1, 3) := by decide +kernel
theorem d_Su_waysOf_72 : decode b_Su_waysOf 72 = .ok (.goto (-55), 3) := by decide +kernel
theorem d_Su_waysOf_75 : decode b_Su_waysOf 75 = .ok (.aload_n 0, 1) := by decide +kernel
theorem d_Su_waysOf_76 : decode b_Su_waysOf 76 = .ok (.getfield 21, 3) := by decide +kernel
theorem d_Su_waysOf_79 : decode b_Su_waysOf 79 = .ok (.iload_n 2, 1) := by decide +kernel
theorem d_Su_waysOf_80 : decode b_Su_waysOf 80 = .ok (.laload, 1) := by decide +kernel
theorem d_Su_waysOf_81 : decode b_Su_waysOf 81 = .ok (.lreturn, 1) := by decide +kernel
theorem d_Ar_fillJ_0 : decode b_Ar_fillJ 0 = .ok (.iconst 0, 1) := by decide +kernel
theorem d_Ar_fillJ_1 : decode b_Ar_fillJ 1 = .ok (.istore_n 3, 1) := by decide +kernel
theorem d_Ar_fillJ_2 : decode b_Ar_fillJ 2 = .ok (.aload_n 0, 1) := by decide +kernel
theorem d_Ar_fillJ_3 : decode b_Ar_fillJ 3 = .ok (.arraylength, 1) := by decide +kernel
theorem d_Ar_fillJ_4 : decode b_Ar_fillJ 4 = .ok (.istore 4, 2) := by decide +kernel
theorem d_Ar_fillJ_6 : decode b_Ar_fillJ 6 = .ok (.iload_n 3, 1) := by decide +kernel
theorem d_Ar_fillJ_7 : decode b_Ar_fillJ 7 = .ok (.iload 4, 2) := by decide +kernel
theorem d_Ar_fillJ_9 : decode b_Ar_fillJ 9 = .ok (.if_icmp .ge 13, 3) := by decide +kernel
theorem d_Ar_fillJ_12 : decode b_Ar_fillJ 12 = .ok (.aload_n 0, 1) := by decide +kernel
theorem d_Ar_fillJ_13 : decode b_Ar_fillJ 13 = .ok (.iload_n 3, 1) := by decide +kernel
theorem d_Ar_fillJ_14 : decode b_Ar_fillJ 14 = .ok (.lload_n 1, 1) := by decide +kernel
theorem d_Ar_fillJ_15 : decode b_Ar_fillJ 15 = .ok (.lastore, 1) := by decide +kernel
theorem d_Ar_fillJ_16 : decode b_Ar_fillJ 16 = .ok (.iinc 3 1, 3) := by decide +kernel
theorem d_Ar_fillJ_19 : decode b_Ar_fillJ 19 = .ok (.goto (-13), 3) := by decide +kernel
theorem d_Ar_fillJ_22 : decode b_Ar_fillJ 22 = .ok (.return_, 1) := by decide +kernel
theorem d_X_tellFraction_0 : decode b_X_tellFraction 0 = .ok (.aload_n 0, 1) := by decide +kernel
theorem d_X_tellFraction_1 : decode b_X_tellFraction 1 = .ok (.lload_n 1, 1) := by decide +kernel
theorem d_X_tellFraction_2 : decode b_X_tellFraction 2 = .ok (.putfield 289, 3) := by decide +kernel
theorem d_X_tellFraction_5 : decode b_X_tellFraction 5 = .ok (.aload_n 0, 1) := by decide +kernel
theorem d_X_tellFraction_6 : decode b_X_tellFraction 6 = .ok (.lload_n 3, 1) := by decide +kernel
theorem d_X_tellFraction_7 : decode b_X_tellFraction 7 = .ok (.putfield 80, 3) := by decide +kernel
theorem d_X_tellFraction_10 : decode b_X_tellFraction 10 = .ok (.lload_n 3, 1) := by decide +kernel
theorem d_X_tellFraction_11 : decode b_X_tellFraction 11 = .ok (.lconst 1, 1) := by decide +kernel
theorem d_X_tellFraction_12 : decode b_X_tellFraction 12 = .ok (.lcmp, 1) := by decide +kernel
theorem d_X_tellFraction_13 : decode b_X_tellFraction 13 = .ok (.ifCond .le 36, 3) := by decide +kernel
theorem d_X_tellFraction_16 : decode b_X_tellFraction 16 = .ok (.lload_n 1, 1) := by decide +kernel
theorem d_X_tellFraction_17 : decode b_X_tellFraction 17 = .ok (.l2i, 1) := by decide +kernel
theorem d_X_tellFraction_18 : decode b_X_tellFraction 18 = .ok (.lload_n 3, 1) := by decide +kernel
theorem d_X_tellFraction_19 : decode b_X_tellFraction 19 = .ok (.l2i, 1) := by decide +kernel
theorem d_X_tellFraction_20 : decode b_X_tellFraction 20 = .ok (.invokestatic 319, 3) := by decide +kernel
theorem d_X_tellFraction_23 : decode b_X_tellFraction 23 = .ok (.istore 5, 2) := by decide +kernel
theorem d_X_tellFraction_25 : decode b_X_tellFraction 25 = .ok (.iload 5, 2) := by decide +kernel
theorem d_X_tellFraction_27 : decode b_X_tellFraction 27 = .ok (.iconst 1, 1) := by decide +kernel
theorem d_X_tellFraction_28 : decode b_X_tellFraction 28 = .ok (.if_icmp .le 21, 3) := by decide +kernel
theorem d_X_tellFraction_31 : decode b_X_tellFraction 31 = .ok (.aload_n 0, 1) := by decide +kernel
theorem d_X_tellFraction_32 : decode b_X_tellFraction 32 = .ok (.lload_n 1, 1) := by decide +kernel
theorem d_X_tellFraction_33 : decode b_X_tellFraction 33 = .ok (.iload 5, 2) := by decide +kernel
theorem d_X_tellFraction_35 : decode b_X_tellFraction 35 = .ok (.i2l, 1) := by decide +kernel
theorem d_X_tellFraction_36 : decode b_X_tellFraction 36 = .ok (.ldiv, 1) := by decide +kernel
theorem d_X_tellFraction_37 : decode b_X_tellFraction 37 = .ok (.putfield 289, 3) := by decide +kernel
theorem d_X_tellFraction_40 : decode b_X_tellFraction 40 = .ok (.aload_n 0, 1) := by decide +kernel
theorem d_X_tellFraction_41 : decode b_X_tellFraction 41 = .ok (.lload_n 3, 1) := by decide +kernel
theorem d_X_tellFraction_42 : decode b_X_tellFraction 42 = .ok (.iload 5, 2) := by decide +kernel
theorem d_X_tellFraction_44 : decode b_X_tellFraction 44 = .ok (.i2l, 1) := by decide +kernel
theorem d_X_tellFraction_45 : decode b_X_tellFraction 45 = .ok (.ldiv, 1) := by decide +kernel
theorem d_X_tellFraction_46 : decode b_X_tellFraction 46 = .ok (.putfield 80, 3) := by decide +kernel
theorem d_X_tellFraction_49 : decode b_X_tellFraction 49 = .ok (.return_, 1) := by decide +kernel
theorem d_X_byJust_0 : decode b_X_byJust 0 = .ok (.iload_n 1, 1) := by decide +kernel
theorem d_X_byJust_1 : decode b_X_byJust 1 = .ok (.iconst 1, 1) := by decide +kernel
theorem d_X_byJust_2 : decode b_X_byJust 2 = .ok (.if_icmp .lt 21, 3) := by decide +kernel
theorem d_X_byJust_5 : decode b_X_byJust 5 = .ok (.iload_n 1, 1) := by decide +kernel
theorem d_X_byJust_6 : decode b_X_byJust 6 = .ok (.sipush 400, 3) := by decide +kernel
theorem d_X_byJust_9 : decode b_X_byJust 9 = .ok (.if_icmp .gt 14, 3) := by decide +kernel
theorem d_X_byJust_12 : decode b_X_byJust 12 = .ok (.iload_n 2, 1) := by decide +kernel
theorem d_X_byJust_13 : decode b_X_byJust 13 = .ok (.iconst 1, 1) := by decide +kernel
theorem d_X_byJust_14 : decode b_X_byJust 14 = .ok (.if_icmp .lt 9, 3) := by decide +kernel
theorem d_X_byJust_17 : decode b_X_byJust 17 = .ok (.iload_n 2, 1) := by decide +kernel
theorem d_X_byJust_18 : decode b_X_byJust 18 = .ok (.bipush 20, 2) := by decide +kernel
theorem d_X_byJust_20 : decode b_X_byJust 20 = .ok (.if_icmp .le 5, 3) := by decide +kernel
theorem d_X_byJust_23 : decode b_X_byJust 23 = .ok (.iconst (-1), 1) := by decide +kernel
theorem d_X_byJust_24 : decode b_X_byJust 24 = .ok (.ireturn, 1) := by decide +kernel
theorem d_X_byJust_25 : decode b_X_byJust 25 = .ok (.aload_n 0, 1) := by decide +kernel
theorem d_X_byJust_26 : decode b_X_byJust 26 = .ok (.getfield 21, 3) := by decide +kernel
theorem d_X_byJust_29 : decode b_X_byJust 29 = .ok (.getfield 148, 3) := by decide +kernel
theorem d_X_byJust_32 : decode b_X_byJust 32 = .ok (.ifCond .eq 6, 3) := by decide +kernel
theorem d_X_byJust_35 : decode b_X_byJust 35 = .ok (.bipush (-4), 2) := by decide +kernel
theorem d_X_byJust_37 : decode b_X_byJust 37 = .ok (.ireturn, 1) := by decide +kernel
theorem d_X_byJust_38 : decode b_X_byJust 38 = .ok (.aload_n 0, 1) := by decide +kernel
theorem d_X_byJust_39 : decode b_X_byJust 39 = .ok (.aload_n 0, 1) := by decide +kernel
theorem d_X_byJust_40 : decode b_X_byJust 40 = .ok (.getfield 69, 3) := by decide +kernel
theorem d_X_byJust_43 : decode b_X_byJust 43 = .ok (.aload_n 0, 1) := by decide +kernel
theorem d_X_byJust_44 : decode b_X_byJust 44 = .ok (.getfield 21, 3) := by decide +kernel
theorem d_X_byJust_47 : decode b_X_byJust 47 = .ok (.iload_n 1, 1) := by decide +kernel
theorem d_X_byJust_48 : decode b_X_byJust 48 = .ok (.iload_n 2, 1) := by decide +kernel
theorem d_X_byJust_49 : decode b_X_byJust 49 = .ok (.invokevirtual 229, 3) := by decide +kernel
theorem d_X_byJust_52 : decode b_X_byJust 52 = .ok (.lconst 1, 1) := by decide +kernel
theorem d_X_byJust_53 : decode b_X_byJust 53 = .ok (.invokevirtual 225, 3) := by decide +kernel
theorem d_X_byJust_56 : decode b_X_byJust 56 = .ok (.iconst 1, 1) := by decide +kernel
theorem d_X_byJust_57 : decode b_X_byJust 57 = .ok (.ireturn, 1) := by decide +kernel
theorem d_Su_waysByJust_0 : decode b_Su_waysByJust 0 = .ok (.iconst 0, 1) := by decide +kernel
theorem d_Su_waysByJust_1 : decode b_Su_waysByJust 1 = .ok (.istore 4, 2) := by decide +kernel
theorem d_Su_waysByJust_3 : decode b_Su_waysByJust 3 = .ok (.iload 4, 2) := by decide +kernel
theorem d_Su_waysByJust_5 : decode b_Su_waysByJust 5 = .ok (.iload_n 3, 1) := by decide +kernel
theorem d_Su_waysByJust_6 : decode b_Su_waysByJust 6 = .ok (.if_icmp .gt 20, 3) := by decide +kernel
theorem d_Su_waysByJust_9 : decode b_Su_waysByJust 9 = .ok (.aload_n 0, 1) := by decide +kernel
theorem d_Su_waysByJust_10 : decode b_Su_waysByJust 10 = .ok (.getfield 27, 3) := by decide +kernel
theorem d_Su_waysByJust_13 : decode b_Su_waysByJust 13 = .ok (.iload 4, 2) := by decide +kernel
theorem d_Su_waysByJust_15 : decode b_Su_waysByJust 15 = .ok (.aaload, 1) := by decide +kernel
theorem d_Su_waysByJust_16 : decode b_Su_waysByJust 16 = .ok (.lconst 0, 1) := by decide +kernel
theorem d_Su_waysByJust_17 : decode b_Su_waysByJust 17 = .ok (.invokestatic 77, 3) := by decide +kernel
theorem d_Su_waysByJust_20 : decode b_Su_waysByJust 20 = .ok (.iinc 4 1, 3) := by decide +kernel
theorem d_Su_waysByJust_23 : decode b_Su_waysByJust 23 = .ok (.goto (-20), 3) := by decide +kernel
theorem d_Su_waysByJust_26 : decode b_Su_waysByJust 26 = .ok (.aload_n 0, 1) := by decide +kernel
theorem d_Su_waysByJust_27 : decode b_Su_waysByJust 27 = .ok (.getfield 27, 3) := by decide +kernel
theorem d_Su_waysByJust_30 : decode b_Su_waysByJust 30 = .ok (.iconst 0, 1) := by decide +kernel
theorem d_Su_waysByJust_31 : decode b_Su_waysByJust 31 = .ok (.aaload, 1) := by decide +kernel
theorem d_Su_waysByJust_32 : decode b_Su_waysByJust 32 = .ok (.iconst 0, 1) := by decide +kernel
theorem d_Su_waysByJust_33 : decode b_Su_waysByJust 33 = .ok (.lconst 1, 1) := by decide +kernel
theorem d_Su_waysByJust_34 : decode b_Su_waysByJust 34 = .ok (.lastore, 1) := by decide +kernel
theorem d_Su_waysByJust_35 : decode b_Su_waysByJust 35 = .ok (.iconst 0, 1) := by decide +kernel
theorem d_Su_waysByJust_36 : decode b_Su_waysByJust 36 = .ok (.istore 4, 2) := by decide +kernel
theorem d_Su_waysByJust_38 : decode b_Su_waysByJust 38 = .ok (.iload 4, 2) := by decide +kernel
theorem d_Su_waysByJust_40 : decode b_Su_waysByJust 40 = .ok (.aload_n 1, 1) := by decide +kernel
theorem d_Su_waysByJust_41 : decode b_Su_waysByJust 41 = .ok (.getfield 50, 3) := by decide +kernel
theorem d_Su_waysByJust_44 : decode b_Su_waysByJust 44 = .ok (.if_icmp .ge 77, 3) := by decide +kernel
theorem d_Su_waysByJust_47 : decode b_Su_waysByJust 47 = .ok (.aload_n 1, 1) := by decide +kernel
theorem d_Su_waysByJust_48 : decode b_Su_waysByJust 48 = .ok (.getfield 53, 3) := by decide +kernel
theorem d_Su_waysByJust_51 : decode b_Su_waysByJust 51 = .ok (.iload 4, 2) := by decide +kernel
theorem d_Su_waysByJust_53 : decode b_Su_waysByJust 53 = .ok (.iaload, 1) := by decide +kernel
theorem d_Su_waysByJust_54 : decode b_Su_waysByJust 54 = .ok (.istore 5, 2) := by decide +kernel
theorem d_Su_waysByJust_56 : decode b_Su_waysByJust 56 = .ok (.iconst 1, 1) := by decide +kernel
theorem d_Su_waysByJust_57 : decode b_Su_waysByJust 57 = .ok (.istore 6, 2) := by decide +kernel
theorem d_Su_waysByJust_59 : decode b_Su_waysByJust 59 = .ok (.iload 6, 2) := by decide +kernel
theorem d_Su_waysByJust_61 : decode b_Su_waysByJust 61 = .ok (.iload_n 3, 1) := by decide +kernel
theorem d_Su_waysByJust_62 : decode b_Su_waysByJust 62 = .ok (.if_icmp .gt 53, 3) := by decide +kernel
theorem d_Su_waysByJust_65 : decode b_Su_waysByJust 65 = .ok (.iload 5, 2) := by decide +kernel
theorem d_Su_waysByJust_67 : decode b_Su_waysByJust 67 = .ok (.istore 7, 2) := by decide +kernel
theorem d_Su_waysByJust_69 : decode b_Su_waysByJust 69 = .ok (.iload 7, 2) := by decide +kernel
theorem d_Su_waysByJust_71 : decode b_Su_waysByJust 71 = .ok (.iload_n 2, 1) := by decide +kernel
theorem d_Su_waysByJust_72 : decode b_Su_waysByJust 72 = .ok (.if_icmp .gt 37, 3) := by decide +kernel
theorem d_Su_waysByJust_75 : decode b_Su_waysByJust 75 = .ok (.aload_n 0, 1) := by decide +kernel
theorem d_Su_waysByJust_76 : decode b_Su_waysByJust 76 = .ok (.getfield 27, 3) := by decide +kernel
theorem d_Su_waysByJust_79 : decode b_Su_waysByJust 79 = .ok (.iload 6, 2) := by decide +kernel
theorem d_Su_waysByJust_81 : decode b_Su_waysByJust 81 = .ok (.aaload, 1) := by decide +kernel
theorem d_Su_waysByJust_82 : decode b_Su_waysByJust 82 = .ok (.iload 7, 2) := by decide +kernel
theorem d_Su_waysByJust_84 : decode b_Su_waysByJust 84 = .ok (.dup2, 1) := by decide +kernel
theorem d_Su_waysByJust_85 : decode b_Su_waysByJust 85 = .ok (.laload, 1) := by decide +kernel
theorem d_Su_waysByJust_86 : decode b_Su_waysByJust 86 = .ok (.aload_n 0, 1) := by decide +kernel
theorem d_Su_waysByJust_87 : decode b_Su_waysByJust 87 = .ok (.getfield 27, 3) := by decide +kernel
theorem d_Su_waysByJust_90 : decode b_Su_waysByJust 90 = .ok (.iload 6, 2) := by decide +kernel
theorem d_Su_waysByJust_92 : decode b_Su_waysByJust 92 = .ok (.iconst 1, 1) := by decide +kernel
theorem d_Su_waysByJust_93 : decode b_Su_waysByJust 93 = .ok (.isub, 1) := by decide +kernel
theorem d_Su_waysByJust_94 : decode b_Su_waysByJust 94 = .ok (.aaload, 1) := by decide +kernel
theorem d_Su_waysByJust_95 : decode b_Su_waysByJust 95 = .ok (.iload 7, 2) := by decide +kernel
theorem d_Su_waysByJust_97 : decode b_Su_waysByJust 97 = .ok (.iload 5, 2) := by decide +kernel
theorem d_Su_waysByJust_99 : decode b_Su_waysByJust 99 = .ok (.isub, 1) := by decide +kernel
theorem d_Su_waysByJust_100 : decode b_Su_waysByJust 100 = .ok (.laload, 1) := by decide +kernel
theorem d_Su_waysByJust_101 : decode b_Su_waysByJust 101 = .ok (.ladd, 1) := by decide +kernel
theorem d_Su_waysByJust_102 : decode b_Su_waysByJust 102 = .ok (.lastore, 1) := by decide +kernel
theorem d_Su_waysByJust_103 : decode b_Su_waysByJust 103 = .ok (.iinc 7 1, 3) := by decide +kernel
theorem d_Su_waysByJust_106 : decode b_Su_waysByJust 106 = .ok (.goto (-37), 3) := by decide +kernel
theorem d_Su_waysByJust_109 : decode b_Su_waysByJust 109 = .ok (.iinc 6 1, 3) := by decide +kernel
theorem d_Su_waysByJust_112 : decode b_Su_waysByJust 112 = .ok (.goto (-53), 3) := by decide +kernel
theorem d_Su_waysByJust_115 : decode b_Su_waysByJust 115 = .ok (.iinc 4 1, 3) := by decide +kernel
theorem d_Su_waysByJust_118 : decode b_Su_waysByJust 118 = .ok (.goto (-80), 3) := by decide +kernel
theorem d_Su_waysByJust_121 : decode b_Su_waysByJust 121 = .ok (.aload_n 0, 1) := by decide +kernel
theorem d_Su_waysByJust_122 : decode b_Su_waysByJust 122 = .ok (.getfield 27, 3) := by decide +kernel
theorem d_Su_waysByJust_125 : decode b_Su_waysByJust 125 = .ok (.iload_n 3, 1) := by decide +kernel
theorem d_Su_waysByJust_126 : decode b_Su_waysByJust 126 = .ok (.aaload, 1) := by decide +kernel
theorem d_Su_waysByJust_127 : decode b_Su_waysByJust 127 = .ok (.iload_n 2, 1) := by decide +kernel
theorem d_Su_waysByJust_128 : decode b_Su_waysByJust 128 = .ok (.laload, 1) := by decide +kernel
theorem d_Su_waysByJust_129 : decode b_Su_waysByJust 129 = .ok (.lreturn, 1) := by decide +kernel
theorem d_X_gaps_0 : decode b_X_gaps 0 = .ok (.iload_n 1, 1) := by decide +kernel
theorem d_X_gaps_1 : decode b_X_gaps 1 = .ok (.bipush 6, 2) := by decide +kernel
theorem d_X_gaps_3 : decode b_X_gaps 3 = .ok (.invokestatic 110, 3) := by decide +kernel
theorem d_X_gaps_6 : decode b_X_gaps 6 = .ok (.ifCond .ne 5, 3) := by decide +kernel
theorem d_X_gaps_9 : decode b_X_gaps 9 = .ok (.iconst (-1), 1) := by decide +kernel
theorem d_X_gaps_10 : decode b_X_gaps 10 = .ok (.ireturn, 1) := by decide +kernel
theorem d_X_gaps_11 : decode b_X_gaps 11 = .ok (.aload_n 0, 1) := by decide +kernel
theorem d_X_gaps_12 : decode b_X_gaps 12 = .ok (.getfield 69, 3) := by decide +kernel
theorem d_X_gaps_15 : decode b_X_gaps 15 = .ok (.aload_n 0, 1) := by decide +kernel
theorem d_X_gaps_16 : decode b_X_gaps 16 = .ok (.getfield 21, 3) := by decide +kernel
theorem d_X_gaps_19 : decode b_X_gaps 19 = .ok (.invokevirtual 233, 3) := by decide +kernel
theorem d_X_gaps_22 : decode b_X_gaps 22 = .ok (.aload_n 0, 1) := by decide +kernel
theorem d_X_gaps_23 : decode b_X_gaps 23 = .ok (.getfield 69, 3) := by decide +kernel
theorem d_X_gaps_26 : decode b_X_gaps 26 = .ok (.invokevirtual 235, 3) := by decide +kernel
theorem d_X_gaps_29 : decode b_X_gaps 29 = .ok (.ifCond .eq 9, 3) := by decide +kernel
theorem d_X_gaps_32 : decode b_X_gaps 32 = .ok (.aload_n 0, 1) := by decide +kernel
theorem d_X_gaps_33 : decode b_X_gaps 33 = .ok (.iconst 4, 1) := by decide +kernel
theorem d_X_gaps_34 : decode b_X_gaps 34 = .ok (.invokevirtual 114, 3) := by decide +kernel
theorem d_X_gaps_37 : decode b_X_gaps 37 = .ok (.ireturn, 1) := by decide +kernel
theorem d_X_gaps_38 : decode b_X_gaps 38 = .ok (.aload_n 0, 1) := by decide +kernel
theorem d_X_gaps_39 : decode b_X_gaps 39 = .ok (.getfield 11, 3) := by decide +kernel
theorem d_X_gaps_42 : decode b_X_gaps 42 = .ok (.iload_n 1, 1) := by decide +kernel
theorem d_X_gaps_43 : decode b_X_gaps 43 = .ok (.aaload, 1) := by decide +kernel
theorem d_X_gaps_44 : decode b_X_gaps 44 = .ok (.iconst 0, 1) := by decide +kernel
theorem d_X_gaps_45 : decode b_X_gaps 45 = .ok (.iconst 0, 1) := by decide +kernel
theorem d_X_gaps_46 : decode b_X_gaps 46 = .ok (.invokevirtual 238, 3) := by decide +kernel
theorem d_X_gaps_49 : decode b_X_gaps 49 = .ok (.iconst 1, 1) := by decide +kernel
theorem d_X_gaps_50 : decode b_X_gaps 50 = .ok (.istore_n 2, 1) := by decide +kernel
theorem d_X_gaps_51 : decode b_X_gaps 51 = .ok (.iload_n 2, 1) := by decide +kernel
theorem d_X_gaps_52 : decode b_X_gaps 52 = .ok (.aload_n 0, 1) := by decide +kernel
theorem d_X_gaps_53 : decode b_X_gaps 53 = .ok (.getfield 69, 3) := by decide +kernel
theorem d_X_gaps_56 : decode b_X_gaps 56 = .ok (.invokevirtual 241, 3) := by decide +kernel
theorem d_X_gaps_59 : decode b_X_gaps 59 = .ok (.if_icmp .gt 44, 3) := by decide +kernel
theorem d_X_gaps_62 : decode b_X_gaps 62 = .ok (.aload_n 0, 1) := by decide +kernel
theorem d_X_gaps_63 : decode b_X_gaps 63 = .ok (.getfield 11, 3) := by decide +kernel
theorem d_X_gaps_66 : decode b_X_gaps 66 = .ok (.iload_n 1, 1) := by decide +kernel
theorem d_X_gaps_67 : decode b_X_gaps 67 = .ok (.aaload, 1) := by decide +kernel
theorem d_X_gaps_68 : decode b_X_gaps 68 = .ok (.getfield 107, 3) := by decide +kernel
theorem d_X_gaps_71 : decode b_X_gaps 71 = .ok (.bipush 60, 2) := by decide +kernel
theorem d_X_gaps_73 : decode b_X_gaps 73 = .ok (.if_icmp .ge 30, 3) := by decide +kernel
theorem d_X_gaps_76 : decode b_X_gaps 76 = .ok (.aload_n 0, 1) := by decide +kernel
theorem d_X_gaps_77 : decode b_X_gaps 77 = .ok (.getfield 69, 3) := by decide +kernel
theorem d_X_gaps_80 : decode b_X_gaps 80 = .ok (.iload_n 2, 1) := by decide +kernel
theorem d_X_gaps_81 : decode b_X_gaps 81 = .ok (.invokevirtual 244, 3) := by decide +kernel
theorem d_X_gaps_84 : decode b_X_gaps 84 = .ok (.ifCond .ne 13, 3) := by decide +kernel
theorem d_X_gaps_87 : decode b_X_gaps 87 = .ok (.aload_n 0, 1) := by decide +kernel
theorem d_X_gaps_88 : decode b_X_gaps 88 = .ok (.getfield 11, 3) := by decide +kernel
theorem d_X_gaps_91 : decode b_X_gaps 91 = .ok (.iload_n 1, 1) := by decide +kernel
theorem d_X_gaps_92 : decode b_X_gaps 92 = .ok (.aaload, 1) := by decide +kernel
theorem d_X_gaps_93 : decode b_X_gaps 93 = .ok (.iload_n 2, 1) := by decide +kernel
theorem d_X_gaps_94 : decode b_X_gaps 94 = .ok (.invokevirtual 247, 3) := by decide +kernel
theorem d_X_gaps_97 : decode b_X_gaps 97 = .ok (.iinc 2 1, 3) := by decide +kernel
theorem d_X_gaps_100 : decode b_X_gaps 100 = .ok (.goto (-49), 3) := by decide +kernel
theorem d_X_gaps_103 : decode b_X_gaps 103 = .ok (.aload_n 0, 1) := by decide +kernel
theorem d_X_gaps_104 : decode b_X_gaps 104 = .ok (.getfield 69, 3) := by decide +kernel
theorem d_X_gaps_107 : decode b_X_gaps 107 = .ok (.invokevirtual 248, 3) := by decide +kernel
theorem d_X_gaps_110 : decode b_X_gaps 110 = .ok (.ireturn, 1) := by decide +kernel
theorem d_Su_load_0 : decode b_Su_load 0 = .ok (.aload_n 0, 1) := by decide +kernel
theorem d_Su_load_1 : decode b_Su_load 1 = .ok (.iconst 0, 1) := by decide +kernel
theorem d_Su_load_2 : decode b_Su_load 2 = .ok (.putfield 30, 3) := by decide +kernel
theorem d_Su_load_5 : decode b_Su_load 5 = .ok (.aload_n 0, 1) := by decide +kernel
theorem d_Su_load_6 : decode b_Su_load 6 = .ok (.getfield 9, 3) := by decide +kernel
theorem d_Su_load_9 : decode b_Su_load 9 = .ok (.ldc 34, 2) := by decide +kernel
theorem d_Su_load_11 : decode b_Su_load 11 = .ok (.invokestatic 35, 3) := by decide +kernel
theorem d_Su_load_14 : decode b_Su_load 14 = .ok (.aload_n 1, 1) := by decide +kernel
theorem d_Su_load_15 : decode b_Su_load 15 = .ok (.getfield 41, 3) := by decide +kernel
theorem d_Su_load_18 : decode b_Su_load 18 = .ok (.iconst 1, 1) := by decide +kernel
theorem d_Su_load_19 : decode b_Su_load 19 = .ok (.if_icmp .ne 21, 3) := by decide +kernel
theorem d_Su_load_22 : decode b_Su_load 22 = .ok (.aload_n 0, 1) := by decide +kernel
theorem d_Su_load_23 : decode b_Su_load 23 = .ok (.aload_n 1, 1) := by decide +kernel
theorem d_Su_load_24 : decode b_Su_load 24 = .ok (.invokevirtual 46, 3) := by decide +kernel
theorem d_Su_load_27 : decode b_Su_load 27 = .ok (.putfield 30, 3) := by decide +kernel
theorem d_Su_load_30 : decode b_Su_load 30 = .ok (.aload_n 0, 1) := by decide +kernel
theorem d_Su_load_31 : decode b_Su_load 31 = .ok (.getfield 9, 3) := by decide +kernel
theorem d_Su_load_34 : decode b_Su_load 34 = .ok (.iconst 0, 1) := by decide +kernel
theorem d_Su_load_35 : decode b_Su_load 35 = .ok (.iconst 0, 1) := by decide +kernel
theorem d_Su_load_36 : decode b_Su_load 36 = .ok (.iastore, 1) := by decide +kernel
theorem d_Su_load_37 : decode b_Su_load 37 = .ok (.goto 67, 3) := by decide +kernel
theorem d_Su_load_40 : decode b_Su_load 40 = .ok (.aload_n 1, 1) := by decide +kernel
theorem d_Su_load_41 : decode b_Su_load 41 = .ok (.getfield 41, 3) := by decide +kernel
theorem d_Su_load_44 : decode b_Su_load 44 = .ok (.ifCond .ne 60, 3) := by decide +kernel
theorem d_Su_load_47 : decode b_Su_load 47 = .ok (.aload_n 1, 1) := by decide +kernel
theorem d_Su_load_48 : decode b_Su_load 48 = .ok (.getfield 50, 3) := by decide +kernel
theorem d_Su_load_51 : decode b_Su_load 51 = .ok (.ifCond .le 53, 3) := by decide +kernel
theorem d_Su_load_54 : decode b_Su_load 54 = .ok (.aload_n 0, 1) := by decide +kernel
theorem d_Su_load_55 : decode b_Su_load 55 = .ok (.aload_n 1, 1) := by decide +kernel
theorem d_Su_load_56 : decode b_Su_load 56 = .ok (.getfield 53, 3) := by decide +kernel
theorem d_Su_load_59 : decode b_Su_load 59 = .ok (.iconst 0, 1) := by decide +kernel
theorem d_Su_load_60 : decode b_Su_load 60 = .ok (.iaload, 1) := by decide +kernel
theorem d_Su_load_61 : decode b_Su_load 61 = .ok (.putfield 30, 3) := by decide +kernel
theorem d_Su_load_64 : decode b_Su_load 64 = .ok (.aload_n 0, 1) := by decide +kernel
theorem d_Su_load_65 : decode b_Su_load 65 = .ok (.getfield 9, 3) := by decide +kernel
theorem d_Su_load_68 : decode b_Su_load 68 = .ok (.iconst 0, 1) := by decide +kernel
theorem d_Su_load_69 : decode b_Su_load 69 = .ok (.iconst 0, 1) := by decide +kernel
theorem d_Su_load_70 : decode b_Su_load 70 = .ok (.iastore, 1) := by decide +kernel
theorem d_Su_load_71 : decode b_Su_load 71 = .ok (.iconst 1, 1) := by decide +kernel
theorem d_Su_load_72 : decode b_Su_load 72 = .ok (.istore_n 2, 1) := by decide +kernel
theorem d_Su_load_73 : decode b_Su_load 73 = .ok (.iload_n 2, 1) := by decide +kernel
theorem d_Su_load_74 : decode b_Su_load 74 = .ok (.aload_n 1, 1) := by decide +kernel
theorem d_Su_load_75 : decode b_Su_load 75 = .ok (.getfield 50, 3) := by decide +kernel
theorem d_Su_load_78 : decode b_Su_load 78 = .ok (.if_icmp .ge 26, 3) := by decide +kernel
theorem d_Su_load_81 : decode b_Su_load 81 = .ok (.aload_n 0, 1) := by decide +kernel
theorem d_Su_load_82 : decode b_Su_load 82 = .ok (.getfield 9, 3) := by decide +kernel
theorem d_Su_load_85 : decode b_Su_load 85 = .ok (.aload_n 0, 1) := by decide +kernel
theorem d_Su_load_86 : decode b_Su_load 86 = .ok (.getfield 30, 3) := by decide +kernel
theorem d_Su_load_89 : decode b_Su_load 89 = .ok (.aload_n 1, 1) := by decide +kernel
theorem d_Su_load_90 : decode b_Su_load 90 = .ok (.getfield 53, 3) := by decide +kernel
theorem d_Su_load_93 : decode b_Su_load 93 = .ok (.iload_n 2, 1) := by decide +kernel
theorem d_Su_load_94 : decode b_Su_load 94 = .ok (.iaload, 1) := by decide +kernel
theorem d_Su_load_95 : decode b_Su_load 95 = .ok (.invokestatic 56, 3) := by decide +kernel
theorem d_Su_load_98 : decode b_Su_load 98 = .ok (.iinc 2 1, 3) := by decide +kernel
theorem d_Su_load_101 : decode b_Su_load 101 = .ok (.goto (-28), 3) := by decide +kernel
theorem d_Su_load_104 : decode b_Su_load 104 = .ok (.return_, 1) := by decide +kernel
theorem d_Su_widen_0 : decode b_Su_widen 0 = .ok (.iload_n 1, 1) := by decide +kernel
theorem d_Su_widen_1 : decode b_Su_widen 1 = .ok (.iconst 1, 1) := by decide +kernel
theorem d_Su_widen_2 : decode b_Su_widen 2 = .ok (.if_icmp .lt 14, 3) := by decide +kernel
theorem d_Su_widen_5 : decode b_Su_widen 5 = .ok (.iload_n 1, 1) := by decide +kernel
theorem d_Su_widen_6 : decode b_Su_widen 6 = .ok (.bipush 60, 2) := by decide +kernel
theorem d_Su_widen_8 : decode b_Su_widen 8 = .ok (.if_icmp .gt 8, 3) := by decide +kernel
theorem d_Su_widen_11 : decode b_Su_widen 11 = .ok (.iload_n 2, 1) := by decide +kernel
theorem d_Su_widen_12 : decode b_Su_widen 12 = .ok (.iconst 1, 1) := by decide +kernel
theorem d_Su_widen_13 : decode b_Su_widen 13 = .ok (.if_icmp .ge 4, 3) := by decide +kernel
theorem d_Su_widen_16 : decode b_Su_widen 16 = .ok (.return_, 1) := by decide +kernel
theorem d_Su_widen_17 : decode b_Su_widen 17 = .ok (.iload_n 1, 1) := by decide +kernel
theorem d_Su_widen_18 : decode b_Su_widen 18 = .ok (.iload_n 2, 1) := by decide +kernel
theorem d_Su_widen_19 : decode b_Su_widen 19 = .ok (.invokestatic 86, 3) := by decide +kernel
theorem d_Su_widen_22 : decode b_Su_widen 22 = .ok (.istore_n 3, 1) := by decide +kernel
theorem d_Su_widen_23 : decode b_Su_widen 23 = .ok (.iload_n 3, 1) := by decide +kernel
theorem d_Su_widen_24 : decode b_Su_widen 24 = .ok (.iconst 1, 1) := by decide +kernel
theorem d_Su_widen_25 : decode b_Su_widen 25 = .ok (.if_icmp .ge 4, 3) := by decide +kernel
theorem d_Su_widen_28 : decode b_Su_widen 28 = .ok (.return_, 1) := by decide +kernel
theorem d_Su_widen_29 : decode b_Su_widen 29 = .ok (.iconst 2, 1) := by decide +kernel
theorem d_Su_widen_30 : decode b_Su_widen 30 = .ok (.iload_n 1, 1) := by decide +kernel
theorem d_Su_widen_31 : decode b_Su_widen 31 = .ok (.imul, 1) := by decide +kernel
theorem d_Su_widen_32 : decode b_Su_widen 32 = .ok (.iload_n 3, 1) := by decide +kernel
theorem d_Su_widen_33 : decode b_Su_widen 33 = .ok (.idiv, 1) := by decide +kernel
theorem d_Su_widen_34 : decode b_Su_widen 34 = .ok (.istore 4, 2) := by decide +kernel
theorem d_Su_widen_36 : decode b_Su_widen 36 = .ok (.iconst 0, 1) := by decide +kernel
theorem d_Su_widen_37 : decode b_Su_widen 37 = .ok (.istore 5, 2) := by decide +kernel
theorem d_Su_widen_39 : decode b_Su_widen 39 = .ok (.iload 5, 2) := by decide +kernel
theorem d_Su_widen_41 : decode b_Su_widen 41 = .ok (.iload_n 3, 1) := by decide +kernel
theorem d_Su_widen_42 : decode b_Su_widen 42 = .ok (.if_icmp .ge 64, 3) := by decide +kernel
theorem d_Su_widen_45 : decode b_Su_widen 45 = .ok (.iload 5, 2) := by decide +kernel
theorem d_Su_widen_47 : decode b_Su_widen 47 = .ok (.iload_n 1, 1) := by decide +kernel
theorem d_Su_widen_48 : decode b_Su_widen 48 = .ok (.if_icmp .ge 58, 3) := by decide +kernel
theorem d_Su_widen_51 : decode b_Su_widen 51 = .ok (.iload 5, 2) := by decide +kernel
theorem d_Su_widen_53 : decode b_Su_widen 53 = .ok (.istore 6, 2) := by decide +kernel
theorem d_Su_widen_55 : decode b_Su_widen 55 = .ok (.iconst 0, 1) := by decide +kernel
theorem d_Su_widen_56 : decode b_Su_widen 56 = .ok (.istore 7, 2) := by decide +kernel
theorem d_Su_widen_58 : decode b_Su_widen 58 = .ok (.iload 7, 2) := by decide +kernel
theorem d_Su_widen_60 : decode b_Su_widen 60 = .ok (.iload 4, 2) := by decide +kernel
theorem d_Su_widen_62 : decode b_Su_widen 62 = .ok (.if_icmp .ge 38, 3) := by decide +kernel
theorem d_Su_widen_65 : decode b_Su_widen 65 = .ok (.iload 6, 2) := by decide +kernel
theorem d_Su_widen_67 : decode b_Su_widen 67 = .ok (.iload_n 2, 1) := by decide +kernel
theorem d_Su_widen_68 : decode b_Su_widen 68 = .ok (.iadd, 1) := by decide +kernel
theorem d_Su_widen_69 : decode b_Su_widen 69 = .ok (.iload_n 1, 1) := by decide +kernel
theorem d_Su_widen_70 : decode b_Su_widen 70 = .ok (.irem, 1) := by decide +kernel
theorem d_Su_widen_71 : decode b_Su_widen 71 = .ok (.istore 8, 2) := by decide +kernel
theorem d_Su_widen_73 : decode b_Su_widen 73 = .ok (.aload_n 0, 1) := by decide +kernel
theorem d_Su_widen_74 : decode b_Su_widen 74 = .ok (.iload 8, 2) := by decide +kernel
theorem d_Su_widen_76 : decode b_Su_widen 76 = .ok (.aload_n 0, 1) := by decide +kernel
theorem d_Su_widen_77 : decode b_Su_widen 77 = .ok (.iload 8, 2) := by decide +kernel
theorem d_Su_widen_79 : decode b_Su_widen 79 = .ok (.iaload, 1) := by decide +kernel
theorem d_Su_widen_80 : decode b_Su_widen 80 = .ok (.aload_n 0, 1) := by decide +kernel
theorem d_Su_widen_81 : decode b_Su_widen 81 = .ok (.iload 6, 2) := by decide +kernel
theorem d_Su_widen_83 : decode b_Su_widen 83 = .ok (.iaload, 1) := by decide +kernel
theorem d_Su_widen_84 : decode b_Su_widen 84 = .ok (.iload_n 2, 1) := by decide +kernel
theorem d_Su_widen_85 : decode b_Su_widen 85 = .ok (.iadd, 1) := by decide +kernel
theorem d_Su_widen_86 : decode b_Su_widen 86 = .ok (.invokestatic 80, 3) := by decide +kernel
theorem d_Su_widen_89 : decode b_Su_widen 89 = .ok (.iastore, 1) := by decide +kernel
theorem d_Su_widen_90 : decode b_Su_widen 90 = .ok (.iload 8, 2) := by decide +kernel
theorem d_Su_widen_92 : decode b_Su_widen 92 = .ok (.istore 6, 2) := by decide +kernel
theorem d_Su_widen_94 : decode b_Su_widen 94 = .ok (.iinc 7 1, 3) := by decide +kernel
theorem d_Su_widen_97 : decode b_Su_widen 97 = .ok (.goto (-39), 3) := by decide +kernel
theorem d_Su_widen_100 : decode b_Su_widen 100 = .ok (.iinc 5 1, 3) := by decide +kernel
theorem d_Su_widen_103 : decode b_Su_widen 103 = .ok (.goto (-64), 3) := by decide +kernel
theorem d_Su_widen_106 : decode b_Su_widen 106 = .ok (.return_, 1) := by decide +kernel
theorem d_Su_isEndless_0 : decode b_Su_isEndless 0 = .ok (.aload_n 0, 1) := by decide +kernel
theorem d_Su_isEndless_1 : decode b_Su_isEndless 1 = .ok (.getfield 9, 3) := by decide +kernel
theorem d_Su_isEndless_4 : decode b_Su_isEndless 4 = .ok (.aload_n 0, 1) := by decide +kernel
theorem d_Su_isEndless_5 : decode b_Su_isEndless 5 = .ok (.getfield 30, 3) := by decide +kernel
theorem d_Su_isEndless_8 : decode b_Su_isEndless 8 = .ok (.invokestatic 60, 3) := by decide +kernel
theorem d_Su_isEndless_11 : decode b_Su_isEndless 11 = .ok (.ldc 34, 2) := by decide +kernel
theorem d_Su_isEndless_13 : decode b_Su_isEndless 13 = .ok (.if_icmp .lt 7, 3) := by decide +kernel
theorem d_Su_isEndless_16 : decode b_Su_isEndless 16 = .ok (.iconst 1, 1) := by decide +kernel
theorem d_Su_isEndless_17 : decode b_Su_isEndless 17 = .ok (.goto 4, 3) := by decide +kernel
theorem d_Su_isEndless_20 : decode b_Su_isEndless 20 = .ok (.iconst 0, 1) := by decide +kernel
theorem d_Su_isEndless_21 : decode b_Su_isEndless 21 = .ok (.ireturn, 1) := by decide +kernel
theorem d_Su_greatestOf_0 : decode b_Su_greatestOf 0 = .ok (.iload_n 1, 1) := by decide +kernel
theorem d_Su_greatestOf_1 : decode b_Su_greatestOf 1 = .ok (.iconst 1, 1) := by decide +kernel
theorem d_Su_greatestOf_2 : decode b_Su_greatestOf 2 = .ok (.if_icmp .lt 9, 3) := by decide +kernel
theorem d_Su_greatestOf_5 : decode b_Su_greatestOf 5 = .ok (.iload_n 1, 1) := by decide +kernel
theorem d_Su_greatestOf_6 : decode b_Su_greatestOf 6 = .ok (.bipush 60, 2) := by decide +kernel
theorem d_Su_greatestOf_8 : decode b_Su_greatestOf 8 = .ok (.if_icmp .le 6, 3) := by decide +kernel
theorem d_Su_greatestOf_11 : decode b_Su_greatestOf 11 = .ok (.ldc 34, 2) := by decide +kernel
theorem d_Su_greatestOf_13 : decode b_Su_greatestOf 13 = .ok (.ireturn, 1) := by decide +kernel
theorem d_Su_greatestOf_14 : decode b_Su_greatestOf 14 = .ok (.iconst 0, 1) := by decide +kernel
theorem d_Su_greatestOf_15 : decode b_Su_greatestOf 15 = .ok (.istore_n 2, 1) := by decide +kernel
theorem d_Su_greatestOf_16 : decode b_Su_greatestOf 16 = .ok (.iconst 0, 1) := by decide +kernel
theorem d_Su_greatestOf_17 : decode b_Su_greatestOf 17 = .ok (.istore_n 3, 1) := by decide +kernel
theorem d_Su_greatestOf_18 : decode b_Su_greatestOf 18 = .ok (.iload_n 3, 1) := by decide +kernel
theorem d_Su_greatestOf_19 : decode b_Su_greatestOf 19 = .ok (.iload_n 1, 1) := by decide +kernel
theorem d_Su_greatestOf_20 : decode b_Su_greatestOf 20 = .ok (.if_icmp .ge 17, 3) := by decide +kernel
theorem d_Su_greatestOf_23 : decode b_Su_greatestOf 23 = .ok (.iload_n 2, 1) := by decide +kernel
theorem d_Su_greatestOf_24 : decode b_Su_greatestOf 24 = .ok (.aload_n 0, 1) := by decide +kernel
theorem d_Su_greatestOf_25 : decode b_Su_greatestOf 25 = .ok (.iload_n 3, 1) := by decide +kernel
theorem d_Su_greatestOf_26 : decode b_Su_greatestOf 26 = .ok (.iaload, 1) := by decide +kernel
theorem d_Su_greatestOf_27 : decode b_Su_greatestOf 27 = .ok (.invokestatic 89, 3) := by decide +kernel
theorem d_Su_greatestOf_30 : decode b_Su_greatestOf 30 = .ok (.istore_n 2, 1) := by decide +kernel
theorem d_Su_greatestOf_31 : decode b_Su_greatestOf 31 = .ok (.iinc 3 1, 3) := by decide +kernel
theorem d_Su_greatestOf_34 : decode b_Su_greatestOf 34 = .ok (.goto (-16), 3) := by decide +kernel
theorem d_Su_greatestOf_37 : decode b_Su_greatestOf 37 = .ok (.iload_n 2, 1) := by decide +kernel
theorem d_Su_greatestOf_38 : decode b_Su_greatestOf 38 = .ok (.ldc 34, 2) := by decide +kernel
theorem d_Su_greatestOf_40 : decode b_Su_greatestOf 40 = .ok (.if_icmp .lt 8, 3) := by decide +kernel
theorem d_Su_greatestOf_43 : decode b_Su_greatestOf 43 = .ok (.ldc 34, 2) := by decide +kernel
theorem d_Su_greatestOf_45 : decode b_Su_greatestOf 45 = .ok (.goto 10, 3) := by decide +kernel
theorem d_Su_greatestOf_48 : decode b_Su_greatestOf 48 = .ok (.iconst 0, 1) := by decide +kernel
theorem d_Su_greatestOf_49 : decode b_Su_greatestOf 49 = .ok (.iload_n 2, 1) := by decide +kernel
theorem d_Su_greatestOf_50 : decode b_Su_greatestOf 50 = .ok (.iload_n 1, 1) := by decide +kernel
theorem d_Su_greatestOf_51 : decode b_Su_greatestOf 51 = .ok (.isub, 1) := by decide +kernel
theorem d_Su_greatestOf_52 : decode b_Su_greatestOf 52 = .ok (.invokestatic 89, 3) := by decide +kernel
theorem d_Su_greatestOf_55 : decode b_Su_greatestOf 55 = .ok (.ireturn, 1) := by decide +kernel
theorem d_Ma_max_0 : decode b_Ma_max 0 = .ok (.iload_n 0, 1) := by decide +kernel
theorem d_Ma_max_1 : decode b_Ma_max 1 = .ok (.iload_n 1, 1) := by decide +kernel
theorem d_Ma_max_2 : decode b_Ma_max 2 = .ok (.if_icmp .lt 7, 3) := by decide +kernel
theorem d_Ma_max_5 : decode b_Ma_max 5 = .ok (.iload_n 0, 1) := by decide +kernel
theorem d_Ma_max_6 : decode b_Ma_max 6 = .ok (.goto 4, 3) := by decide +kernel
theorem d_Ma_max_9 : decode b_Ma_max 9 = .ok (.iload_n 1, 1) := by decide +kernel
theorem d_Ma_max_10 : decode b_Ma_max 10 = .ok (.ireturn, 1) := by decide +kernel
theorem d_Su_greatestGap_0 : decode b_Su_greatestGap 0 = .ok (.aload_n 0, 1) := by decide +kernel
theorem d_Su_greatestGap_1 : decode b_Su_greatestGap 1 = .ok (.getfield 9, 3) := by decide +kernel
theorem d_Su_greatestGap_4 : decode b_Su_greatestGap 4 = .ok (.aload_n 0, 1) := by decide +kernel
theorem d_Su_greatestGap_5 : decode b_Su_greatestGap 5 = .ok (.getfield 30, 3) := by decide +kernel
theorem d_Su_greatestGap_8 : decode b_Su_greatestGap 8 = .ok (.invokestatic 60, 3) := by decide +kernel
theorem d_Su_greatestGap_11 : decode b_Su_greatestGap 11 = .ok (.ireturn, 1) := by decide +kernel
theorem d_Su_isHad_0 : decode b_Su_isHad 0 = .ok (.aload_n 0, 1) := by decide +kernel
theorem d_Su_isHad_1 : decode b_Su_isHad 1 = .ok (.getfield 30, 3) := by decide +kernel
theorem d_Su_isHad_4 : decode b_Su_isHad 4 = .ok (.ifCond .le 26, 3) := by decide +kernel
theorem d_Su_isHad_7 : decode b_Su_isHad 7 = .ok (.iload_n 1, 1) := by decide +kernel
theorem d_Su_isHad_8 : decode b_Su_isHad 8 = .ok (.ifCond .le 22, 3) := by decide +kernel
theorem d_Su_isHad_11 : decode b_Su_isHad 11 = .ok (.aload_n 0, 1) := by decide +kernel
theorem d_Su_isHad_12 : decode b_Su_isHad 12 = .ok (.getfield 9, 3) := by decide +kernel
theorem d_Su_isHad_15 : decode b_Su_isHad 15 = .ok (.iload_n 1, 1) := by decide +kernel
theorem d_Su_isHad_16 : decode b_Su_isHad 16 = .ok (.aload_n 0, 1) := by decide +kernel
theorem d_Su_isHad_17 : decode b_Su_isHad 17 = .ok (.getfield 30, 3) := by decide +kernel
theorem d_Su_isHad_20 : decode b_Su_isHad 20 = .ok (.irem, 1) := by decide +kernel
theorem d_Su_isHad_21 : decode b_Su_isHad 21 = .ok (.iaload, 1) := by decide +kernel
theorem d_Su_isHad_22 : decode b_Su_isHad 22 = .ok (.iload_n 1, 1) := by decide +kernel
theorem d_Su_isHad_23 : decode b_Su_isHad 23 = .ok (.if_icmp .gt 7, 3) := by decide +kernel
theorem d_Su_isHad_26 : decode b_Su_isHad 26 = .ok (.iconst 1, 1) := by decide +kernel
theorem d_Su_isHad_27 : decode b_Su_isHad 27 = .ok (.goto 4, 3) := by decide +kernel
theorem d_Su_isHad_30 : decode b_Su_isHad 30 = .ok (.iconst 0, 1) := by decide +kernel
theorem d_Su_isHad_31 : decode b_Su_isHad 31 = .ok (.ireturn, 1) := by decide +kernel
theorem d_Rw_add_0 : decode b_Rw_add 0 = .ok (.aload_n 0, 1) := by decide +kernel
theorem d_Rw_add_1 : decode b_Rw_add 1 = .ok (.getfield 15, 3) := by decide +kernel
theorem d_Rw_add_4 : decode b_Rw_add 4 = .ok (.bipush 60, 2) := by decide +kernel
theorem d_Rw_add_6 : decode b_Rw_add 6 = .ok (.invokestatic 25, 3) := by decide +kernel
theorem d_Rw_add_9 : decode b_Rw_add 9 = .ok (.ifCond .eq 23, 3) := by decide +kernel
theorem d_Rw_add_12 : decode b_Rw_add 12 = .ok (.aload_n 0, 1) := by decide +kernel
theorem d_Rw_add_13 : decode b_Rw_add 13 = .ok (.getfield 9, 3) := by decide +kernel
theorem d_Rw_add_16 : decode b_Rw_add 16 = .ok (.aload_n 0, 1) := by decide +kernel
theorem d_Rw_add_17 : decode b_Rw_add 17 = .ok (.getfield 15, 3) := by decide +kernel
theorem d_Rw_add_20 : decode b_Rw_add 20 = .ok (.iload_n 1, 1) := by decide +kernel
theorem d_Rw_add_21 : decode b_Rw_add 21 = .ok (.iastore, 1) := by decide +kernel
theorem d_Rw_add_22 : decode b_Rw_add 22 = .ok (.aload_n 0, 1) := by decide +kernel
theorem d_Rw_add_23 : decode b_Rw_add 23 = .ok (.dup, 1) := by decide +kernel
theorem d_Rw_add_24 : decode b_Rw_add 24 = .ok (.getfield 15, 3) := by decide +kernel
theorem d_Rw_add_27 : decode b_Rw_add 27 = .ok (.iconst 1, 1) := by decide +kernel
theorem d_Rw_add_28 : decode b_Rw_add 28 = .ok (.iadd, 1) := by decide +kernel
theorem d_Rw_add_29 : decode b_Rw_add 29 = .ok (.putfield 15, 3) := by decide +kernel
theorem d_Rw_add_32 : decode b_Rw_add 32 = .ok (.return_, 1) := by decide +kernel
theorem d_Su_gapCount_0 : decode b_Su_gapCount 0 = .ok (.iconst 0, 1) := by decide +kernel
theorem d_Su_gapCount_1 : decode b_Su_gapCount 1 = .ok (.istore_n 1, 1) := by decide +kernel
theorem d_Su_gapCount_2 : decode b_Su_gapCount 2 = .ok (.iconst 0, 1) := by decide +kernel
theorem d_Su_gapCount_3 : decode b_Su_gapCount 3 = .ok (.istore_n 2, 1) := by decide +kernel
theorem d_Su_gapCount_4 : decode b_Su_gapCount 4 = .ok (.iload_n 2, 1) := by decide +kernel
theorem d_Su_gapCount_5 : decode b_Su_gapCount 5 = .ok (.aload_n 0, 1) := by decide +kernel
theorem d_Su_gapCount_6 : decode b_Su_gapCount 6 = .ok (.getfield 30, 3) := by decide +kernel
theorem d_Su_gapCount_9 : decode b_Su_gapCount 9 = .ok (.if_icmp .ge 29, 3) := by decide +kernel
theorem d_Su_gapCount_12 : decode b_Su_gapCount 12 = .ok (.iload_n 2, 1) := by decide +kernel
theorem d_Su_gapCount_13 : decode b_Su_gapCount 13 = .ok (.bipush 60, 2) := by decide +kernel
theorem d_Su_gapCount_15 : decode b_Su_gapCount 15 = .ok (.if_icmp .ge 23, 3) := by decide +kernel
theorem d_Su_gapCount_18 : decode b_Su_gapCount 18 = .ok (.iload_n 1, 1) := by decide +kernel
theorem d_Su_gapCount_19 : decode b_Su_gapCount 19 = .ok (.aload_n 0, 1) := by decide +kernel
theorem d_Su_gapCount_20 : decode b_Su_gapCount 20 = .ok (.getfield 9, 3) := by decide +kernel
theorem d_Su_gapCount_23 : decode b_Su_gapCount 23 = .ok (.iload_n 2, 1) := by decide +kernel
theorem d_Su_gapCount_24 : decode b_Su_gapCount 24 = .ok (.iaload, 1) := by decide +kernel
theorem d_Su_gapCount_25 : decode b_Su_gapCount 25 = .ok (.aload_n 0, 1) := by decide +kernel
theorem d_Su_gapCount_26 : decode b_Su_gapCount 26 = .ok (.getfield 30, 3) := by decide +kernel
theorem d_Su_gapCount_29 : decode b_Su_gapCount 29 = .ok (.idiv, 1) := by decide +kernel
theorem d_Su_gapCount_30 : decode b_Su_gapCount 30 = .ok (.iadd, 1) := by decide +kernel
theorem d_Su_gapCount_31 : decode b_Su_gapCount 31 = .ok (.istore_n 1, 1) := by decide +kernel
theorem d_Su_gapCount_32 : decode b_Su_gapCount 32 = .ok (.iinc 2 1, 3) := by decide +kernel
theorem d_Su_gapCount_35 : decode b_Su_gapCount 35 = .ok (.goto (-31), 3) := by decide +kernel
theorem d_Su_gapCount_38 : decode b_Su_gapCount 38 = .ok (.iload_n 1, 1) := by decide +kernel
theorem d_Su_gapCount_39 : decode b_Su_gapCount 39 = .ok (.ireturn, 1) := by decide +kernel
theorem d_X_greatest_0 : decode b_X_greatest 0 = .ok (.aload_n 0, 1) := by decide +kernel
theorem d_X_greatest_1 : decode b_X_greatest 1 = .ok (.getfield 69, 3) := by decide +kernel
theorem d_X_greatest_4 : decode b_X_greatest 4 = .ok (.aload_n 0, 1) := by decide +kernel
theorem d_X_greatest_5 : decode b_X_greatest 5 = .ok (.getfield 21, 3) := by decide +kernel
theorem d_X_greatest_8 : decode b_X_greatest 8 = .ok (.invokevirtual 233, 3) := by decide +kernel
theorem d_X_greatest_11 : decode b_X_greatest 11 = .ok (.aload_n 0, 1) := by decide +kernel
theorem d_X_greatest_12 : decode b_X_greatest 12 = .ok (.getfield 69, 3) := by decide +kernel
theorem d_X_greatest_15 : decode b_X_greatest 15 = .ok (.invokevirtual 235, 3) := by decide +kernel
theorem d_X_greatest_18 : decode b_X_greatest 18 = .ok (.ifCond .eq 9, 3) := by decide +kernel
theorem d_X_greatest_21 : decode b_X_greatest 21 = .ok (.aload_n 0, 1) := by decide +kernel
theorem d_X_greatest_22 : decode b_X_greatest 22 = .ok (.iconst 4, 1) := by decide +kernel
theorem d_X_greatest_23 : decode b_X_greatest 23 = .ok (.invokevirtual 114, 3) := by decide +kernel
theorem d_X_greatest_26 : decode b_X_greatest 26 = .ok (.ireturn, 1) := by decide +kernel
theorem d_X_greatest_27 : decode b_X_greatest 27 = .ok (.aload_n 0, 1) := by decide +kernel
theorem d_X_greatest_28 : decode b_X_greatest 28 = .ok (.aload_n 0, 1) := by decide +kernel
theorem d_X_greatest_29 : decode b_X_greatest 29 = .ok (.getfield 69, 3) := by decide +kernel
theorem d_X_greatest_32 : decode b_X_greatest 32 = .ok (.invokevirtual 248, 3) := by decide +kernel
theorem d_X_greatest_35 : decode b_X_greatest 35 = .ok (.putfield 99, 3) := by decide +kernel
theorem d_X_greatest_38 : decode b_X_greatest 38 = .ok (.aload_n 0, 1) := by decide +kernel
theorem d_X_greatest_39 : decode b_X_greatest 39 = .ok (.getfield 69, 3) := by decide +kernel
theorem d_X_greatest_42 : decode b_X_greatest 42 = .ok (.invokevirtual 241, 3) := by decide +kernel
theorem d_X_greatest_45 : decode b_X_greatest 45 = .ok (.ireturn, 1) := by decide +kernel
theorem d_X_rest_0 : decode b_X_rest 0 = .ok (.iload_n 1, 1) := by decide +kernel
theorem d_X_rest_1 : decode b_X_rest 1 = .ok (.iconst 2, 1) := by decide +kernel
theorem d_X_rest_2 : decode b_X_rest 2 = .ok (.if_icmp .lt 17, 3) := by decide +kernel
theorem d_X_rest_5 : decode b_X_rest 5 = .ok (.iload_n 1, 1) := by decide +kernel
theorem d_X_rest_6 : decode b_X_rest 6 = .ok (.bipush 60, 2) := by decide +kernel
theorem d_X_rest_8 : decode b_X_rest 8 = .ok (.if_icmp .gt 11, 3) := by decide +kernel
theorem d_X_rest_11 : decode b_X_rest 11 = .ok (.iload_n 2, 1) := by decide +kernel
theorem d_X_rest_12 : decode b_X_rest 12 = .ok (.iload_n 1, 1) := by decide +kernel
theorem d_X_rest_13 : decode b_X_rest 13 = .ok (.invokestatic 110, 3) := by decide +kernel
theorem d_X_rest_16 : decode b_X_rest 16 = .ok (.ifCond .ne 5, 3) := by decide +kernel
theorem d_X_rest_19 : decode b_X_rest 19 = .ok (.iconst (-1), 1) := by decide +kernel
theorem d_X_rest_20 : decode b_X_rest 20 = .ok (.ireturn, 1) := by decide +kernel
theorem d_X_rest_21 : decode b_X_rest 21 = .ok (.aload_n 0, 1) := by decide +kernel
theorem d_X_rest_22 : decode b_X_rest 22 = .ok (.getfield 21, 3) := by decide +kernel
theorem d_X_rest_25 : decode b_X_rest 25 = .ok (.getfield 148, 3) := by decide +kernel
theorem d_X_rest_28 : decode b_X_rest 28 = .ok (.ifCond .eq 6, 3) := by decide +kernel
theorem d_X_rest_31 : decode b_X_rest 31 = .ok (.bipush (-4), 2) := by decide +kernel
theorem d_X_rest_33 : decode b_X_rest 33 = .ok (.ireturn, 1) := by decide +kernel
theorem d_X_rest_34 : decode b_X_rest 34 = .ok (.aload_n 0, 1) := by decide +kernel
theorem d_X_rest_35 : decode b_X_rest 35 = .ok (.getfield 69, 3) := by decide +kernel
theorem d_X_rest_38 : decode b_X_rest 38 = .ok (.aload_n 0, 1) := by decide +kernel
theorem d_X_rest_39 : decode b_X_rest 39 = .ok (.getfield 21, 3) := by decide +kernel
theorem d_X_rest_42 : decode b_X_rest 42 = .ok (.invokevirtual 233, 3) := by decide +kernel
theorem d_X_rest_45 : decode b_X_rest 45 = .ok (.iload_n 2, 1) := by decide +kernel
theorem d_X_rest_46 : decode b_X_rest 46 = .ok (.ifCond .ne 7, 3) := by decide +kernel
theorem d_X_rest_49 : decode b_X_rest 49 = .ok (.iload_n 1, 1) := by decide +kernel
theorem d_X_rest_50 : decode b_X_rest 50 = .ok (.goto 4, 3) := by decide +kernel
theorem d_X_rest_53 : decode b_X_rest 53 = .ok (.iload_n 2, 1) := by decide +kernel
theorem d_X_rest_54 : decode b_X_rest 54 = .ok (.istore_n 3, 1) := by decide +kernel
theorem d_X_rest_55 : decode b_X_rest 55 = .ok (.iload_n 3, 1) := by decide +kernel
theorem d_X_rest_56 : decode b_X_rest 56 = .ok (.iload_n 1, 1) := by decide +kernel
theorem d_X_rest_57 : decode b_X_rest 57 = .ok (.bipush 60, 2) := by decide +kernel
theorem d_X_rest_59 : decode b_X_rest 59 = .ok (.imul, 1) := by decide +kernel
theorem d_X_rest_60 : decode b_X_rest 60 = .ok (.if_icmp .gt 23, 3) := by decide +kernel
theorem d_X_rest_63 : decode b_X_rest 63 = .ok (.aload_n 0, 1) := by decide +kernel
theorem d_X_rest_64 : decode b_X_rest 64 = .ok (.getfield 69, 3) := by decide +kernel
theorem d_X_rest_67 : decode b_X_rest 67 = .ok (.iload_n 3, 1) := by decide +kernel
theorem d_X_rest_68 : decode b_X_rest 68 = .ok (.invokevirtual 244, 3) := by decide +kernel
theorem d_X_rest_71 : decode b_X_rest 71 = .ok (.ifCond .eq 5, 3) := by decide +kernel
theorem d_X_rest_74 : decode b_X_rest 74 = .ok (.iload_n 3, 1) := by decide +kernel
theorem d_X_rest_75 : decode b_X_rest 75 = .ok (.ireturn, 1) := by decide +kernel
theorem d_X_rest_76 : decode b_X_rest 76 = .ok (.iload_n 3, 1) := by decide +kernel
theorem d_X_rest_77 : decode b_X_rest 77 = .ok (.iload_n 1, 1) := by decide +kernel
theorem d_X_rest_78 : decode b_X_rest 78 = .ok (.iadd, 1) := by decide +kernel
theorem d_X_rest_79 : decode b_X_rest 79 = .ok (.istore_n 3, 1) := by decide +kernel
theorem d_X_rest_80 : decode b_X_rest 80 = .ok (.goto (-25), 3) := by decide +kernel
theorem d_X_rest_83 : decode b_X_rest 83 = .ok (.bipush (-9), 2) := by decide +kernel
theorem d_X_rest_85 : decode b_X_rest 85 = .ok (.ireturn, 1) := by decide +kernel
theorem d_X_needed_0 : decode b_X_needed 0 = .ok (.aload_n 0, 1) := by decide +kernel
theorem d_X_needed_1 : decode b_X_needed 1 = .ok (.getfield 21, 3) := by decide +kernel
theorem d_X_needed_4 : decode b_X_needed 4 = .ok (.invokevirtual 251, 3) := by decide +kernel
theorem d_X_needed_7 : decode b_X_needed 7 = .ok (.istore_n 1, 1) := by decide +kernel
theorem d_X_needed_8 : decode b_X_needed 8 = .ok (.aload_n 0, 1) := by decide +kernel
theorem d_X_needed_9 : decode b_X_needed 9 = .ok (.iload_n 1, 1) := by decide +kernel
theorem d_X_needed_10 : decode b_X_needed 10 = .ok (.invokestatic 254, 3) := by decide +kernel
theorem d_X_needed_13 : decode b_X_needed 13 = .ok (.putfield 99, 3) := by decide +kernel
theorem d_X_needed_16 : decode b_X_needed 16 = .ok (.iload_n 1, 1) := by decide +kernel
theorem d_X_needed_17 : decode b_X_needed 17 = .ok (.ireturn, 1) := by decide +kernel
theorem d_Gm_neededBits_0 : decode b_Gm_neededBits 0 = .ok (.iconst 0, 1) := by decide +kernel
theorem d_Gm_neededBits_1 : decode b_Gm_neededBits 1 = .ok (.istore_n 1, 1) := by decide +kernel
theorem d_Gm_neededBits_2 : decode b_Gm_neededBits 2 = .ok (.iconst 0, 1) := by decide +kernel
theorem d_Gm_neededBits_3 : decode b_Gm_neededBits 3 = .ok (.istore_n 2, 1) := by decide +kernel
theorem d_Gm_neededBits_4 : decode b_Gm_neededBits 4 = .ok (.iload_n 2, 1) := by decide +kernel
theorem d_Gm_neededBits_5 : decode b_Gm_neededBits 5 = .ok (.aload_n 0, 1) := by decide +kernel
theorem d_Gm_neededBits_6 : decode b_Gm_neededBits 6 = .ok (.getfield 23, 3) := by decide +kernel
theorem d_Gm_neededBits_9 : decode b_Gm_neededBits 9 = .ok (.if_icmp .ge 34, 3) := by decide +kernel
theorem d_Gm_neededBits_12 : decode b_Gm_neededBits 12 = .ok (.aload_n 0, 1) := by decide +kernel
theorem d_Gm_neededBits_13 : decode b_Gm_neededBits 13 = .ok (.iload_n 2, 1) := by decide +kernel
theorem d_Gm_neededBits_14 : decode b_Gm_neededBits 14 = .ok (.invokevirtual 34, 3) := by decide +kernel
theorem d_Gm_neededBits_17 : decode b_Gm_neededBits 17 = .ok (.aload_n 0, 1) := by decide +kernel
theorem d_Gm_neededBits_18 : decode b_Gm_neededBits 18 = .ok (.getfield 9, 3) := by decide +kernel
theorem d_Gm_neededBits_21 : decode b_Gm_neededBits 21 = .ok (.iload_n 2, 1) := by decide +kernel
theorem d_Gm_neededBits_22 : decode b_Gm_neededBits 22 = .ok (.iaload, 1) := by decide +kernel
theorem d_Gm_neededBits_23 : decode b_Gm_neededBits 23 = .ok (.lshr, 1) := by decide +kernel
theorem d_Gm_neededBits_24 : decode b_Gm_neededBits 24 = .ok (.lconst 1, 1) := by decide +kernel
theorem d_Gm_neededBits_25 : decode b_Gm_neededBits 25 = .ok (.land, 1) := by decide +kernel
theorem d_Gm_neededBits_26 : decode b_Gm_neededBits 26 = .ok (.lconst 0, 1) := by decide +kernel
theorem d_Gm_neededBits_27 : decode b_Gm_neededBits 27 = .ok (.lcmp, 1) := by decide +kernel
theorem d_Gm_neededBits_28 : decode b_Gm_neededBits 28 = .ok (.ifCond .ne 9, 3) := by decide +kernel
theorem d_Gm_neededBits_31 : decode b_Gm_neededBits 31 = .ok (.iload_n 1, 1) := by decide +kernel
theorem d_Gm_neededBits_32 : decode b_Gm_neededBits 32 = .ok (.iconst 1, 1) := by decide +kernel
theorem d_Gm_neededBits_33 : decode b_Gm_neededBits 33 = .ok (.iload_n 2, 1) := by decide +kernel
theorem d_Gm_neededBits_34 : decode b_Gm_neededBits 34 = .ok (.ishl, 1) := by decide +kernel
theorem d_Gm_neededBits_35 : decode b_Gm_neededBits 35 = .ok (.ior, 1) := by decide +kernel
theorem d_Gm_neededBits_36 : decode b_Gm_neededBits 36 = .ok (.istore_n 1, 1) := by decide +kernel
theorem d_Gm_neededBits_37 : decode b_Gm_neededBits 37 = .ok (.iinc 2 1, 3) := by decide +kernel
theorem d_Gm_neededBits_40 : decode b_Gm_neededBits 40 = .ok (.goto (-36), 3) := by decide +kernel
theorem d_Gm_neededBits_43 : decode b_Gm_neededBits 43 = .ok (.iload_n 1, 1) := by decide +kernel
theorem d_Gm_neededBits_44 : decode b_Gm_neededBits 44 = .ok (.ireturn, 1) := by decide +kernel
theorem d_In_bitCount_0 : decode b_In_bitCount 0 = .ok (.iload_n 0, 1) := by decide +kernel
theorem d_In_bitCount_1 : decode b_In_bitCount 1 = .ok (.iload_n 0, 1) := by decide +kernel
theorem d_In_bitCount_2 : decode b_In_bitCount 2 = .ok (.iconst 1, 1) := by decide +kernel
theorem d_In_bitCount_3 : decode b_In_bitCount 3 = .ok (.iushr, 1) := by decide +kernel
theorem d_In_bitCount_4 : decode b_In_bitCount 4 = .ok (.ldc_w 265, 3) := by decide +kernel
theorem d_In_bitCount_7 : decode b_In_bitCount 7 = .ok (.iand, 1) := by decide +kernel
theorem d_In_bitCount_8 : decode b_In_bitCount 8 = .ok (.isub, 1) := by decide +kernel
theorem d_In_bitCount_9 : decode b_In_bitCount 9 = .ok (.istore_n 0, 1) := by decide +kernel
theorem d_In_bitCount_10 : decode b_In_bitCount 10 = .ok (.iload_n 0, 1) := by decide +kernel
theorem d_In_bitCount_11 : decode b_In_bitCount 11 = .ok (.ldc_w 266, 3) := by decide +kernel
theorem d_In_bitCount_14 : decode b_In_bitCount 14 = .ok (.iand, 1) := by decide +kernel
theorem d_In_bitCount_15 : decode b_In_bitCount 15 = .ok (.iload_n 0, 1) := by decide +kernel
theorem d_In_bitCount_16 : decode b_In_bitCount 16 = .ok (.iconst 2, 1) := by decide +kernel
theorem d_In_bitCount_17 : decode b_In_bitCount 17 = .ok (.iushr, 1) := by decide +kernel
theorem d_In_bitCount_18 : decode b_In_bitCount 18 = .ok (.ldc_w 266, 3) := by decide +kernel
theorem d_In_bitCount_21 : decode b_In_bitCount 21 = .ok (.iand, 1) := by decide +kernel
theorem d_In_bitCount_22 : decode b_In_bitCount 22 = .ok (.iadd, 1) := by decide +kernel
theorem d_In_bitCount_23 : decode b_In_bitCount 23 = .ok (.istore_n 0, 1) := by decide +kernel
theorem d_In_bitCount_24 : decode b_In_bitCount 24 = .ok (.iload_n 0, 1) := by decide +kernel
theorem d_In_bitCount_25 : decode b_In_bitCount 25 = .ok (.iload_n 0, 1) := by decide +kernel
theorem d_In_bitCount_26 : decode b_In_bitCount 26 = .ok (.iconst 4, 1) := by decide +kernel
theorem d_In_bitCount_27 : decode b_In_bitCount 27 = .ok (.iushr, 1) := by decide +kernel
theorem d_In_bitCount_28 : decode b_In_bitCount 28 = .ok (.iadd, 1) := by decide +kernel
theorem d_In_bitCount_29 : decode b_In_bitCount 29 = .ok (.ldc_w 267, 3) := by decide +kernel
theorem d_In_bitCount_32 : decode b_In_bitCount 32 = .ok (.iand, 1) := by decide +kernel
theorem d_In_bitCount_33 : decode b_In_bitCount 33 = .ok (.istore_n 0, 1) := by decide +kernel
theorem d_In_bitCount_34 : decode b_In_bitCount 34 = .ok (.iload_n 0, 1) := by decide +kernel
theorem d_In_bitCount_35 : decode b_In_bitCount 35 = .ok (.iload_n 0, 1) := by decide +kernel
theorem d_In_bitCount_36 : decode b_In_bitCount 36 = .ok (.bipush 8, 2) := by decide +kernel
theorem d_In_bitCount_38 : decode b_In_bitCount 38 = .ok (.iushr, 1) := by decide +kernel
theorem d_In_bitCount_39 : decode b_In_bitCount 39 = .ok (.iadd, 1) := by decide +kernel
theorem d_In_bitCount_40 : decode b_In_bitCount 40 = .ok (.istore_n 0, 1) := by decide +kernel
theorem d_In_bitCount_41 : decode b_In_bitCount 41 = .ok (.iload_n 0, 1) := by decide +kernel
