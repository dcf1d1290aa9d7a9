theorem d_M_mean_69 : decode b_M_mean 69 = .ok (.goto (-25), 3) := by decide +kernel
theorem d_M_mean_72 : decode b_M_mean 72 = .ok (.aload_n 0, 1) := by decide +kernel
theorem d_M_mean_73 : decode b_M_mean 73 = .ok (.lload_n 2, 1) := by decide +kernel
theorem d_M_mean_74 : decode b_M_mean 74 = .ok (.aload_n 0, 1) := by decide +kernel
theorem d_M_mean_75 : decode b_M_mean 75 = .ok (.getfield 13, 3) := by decide +kernel
theorem d_M_mean_78 : decode b_M_mean 78 = .ok (.iload_n 1, 1) := by decide +kernel
theorem d_M_mean_79 : decode b_M_mean 79 = .ok (.iaload, 1) := by decide +kernel
theorem d_M_mean_80 : decode b_M_mean 80 = .ok (.i2l, 1) := by decide +kernel
theorem d_M_mean_81 : decode b_M_mean 81 = .ok (.ldiv, 1) := by decide +kernel
theorem d_M_mean_82 : decode b_M_mean 82 = .ok (.l2i, 1) := by decide +kernel
theorem d_M_mean_83 : decode b_M_mean 83 = .ok (.iconst 1, 1) := by decide +kernel
theorem d_M_mean_84 : decode b_M_mean 84 = .ok (.invokevirtual 121, 3) := by decide +kernel
theorem d_M_mean_87 : decode b_M_mean 87 = .ok (.ireturn, 1) := by decide +kernel
theorem d_M_text_0 : decode b_M_text 0 = .ok (.iload_n 1, 1) := by decide +kernel
theorem d_M_text_1 : decode b_M_text 1 = .ok (.invokestatic 124, 3) := by decide +kernel
theorem d_M_text_4 : decode b_M_text 4 = .ok (.ifCond .eq 9, 3) := by decide +kernel
theorem d_M_text_7 : decode b_M_text 7 = .ok (.iload_n 2, 1) := by decide +kernel
theorem d_M_text_8 : decode b_M_text 8 = .ok (.bipush 60, 2) := by decide +kernel
theorem d_M_text_10 : decode b_M_text 10 = .ok (.if_icmp .le 5, 3) := by decide +kernel
theorem d_M_text_13 : decode b_M_text 13 = .ok (.iconst (-1), 1) := by decide +kernel
theorem d_M_text_14 : decode b_M_text 14 = .ok (.ireturn, 1) := by decide +kernel
theorem d_M_text_15 : decode b_M_text 15 = .ok (.iload_n 2, 1) := by decide +kernel
theorem d_M_text_16 : decode b_M_text 16 = .ok (.ifCond .ge 9, 3) := by decide +kernel
theorem d_M_text_19 : decode b_M_text 19 = .ok (.aload_n 0, 1) := by decide +kernel
theorem d_M_text_20 : decode b_M_text 20 = .ok (.iconst 5, 1) := by decide +kernel
theorem d_M_text_21 : decode b_M_text 21 = .ok (.invokevirtual 114, 3) := by decide +kernel
theorem d_M_text_24 : decode b_M_text 24 = .ok (.ireturn, 1) := by decide +kernel
theorem d_M_text_25 : decode b_M_text 25 = .ok (.aload_n 0, 1) := by decide +kernel
theorem d_M_text_26 : decode b_M_text 26 = .ok (.getfield 22, 3) := by decide +kernel
theorem d_M_text_29 : decode b_M_text 29 = .ok (.iload_n 1, 1) := by decide +kernel
theorem d_M_text_30 : decode b_M_text 30 = .ok (.iload_n 2, 1) := by decide +kernel
theorem d_M_text_31 : decode b_M_text 31 = .ok (.iastore, 1) := by decide +kernel
theorem d_M_text_32 : decode b_M_text 32 = .ok (.iconst 0, 1) := by decide +kernel
theorem d_M_text_33 : decode b_M_text 33 = .ok (.istore_n 3, 1) := by decide +kernel
theorem d_M_text_34 : decode b_M_text 34 = .ok (.iload_n 3, 1) := by decide +kernel
theorem d_M_text_35 : decode b_M_text 35 = .ok (.bipush 60, 2) := by decide +kernel
theorem d_M_text_37 : decode b_M_text 37 = .ok (.if_icmp .ge 22, 3) := by decide +kernel
theorem d_M_text_40 : decode b_M_text 40 = .ok (.aload_n 0, 1) := by decide +kernel
theorem d_M_text_41 : decode b_M_text 41 = .ok (.getfield 25, 3) := by decide +kernel
theorem d_M_text_44 : decode b_M_text 44 = .ok (.bipush 60, 2) := by decide +kernel
theorem d_M_text_46 : decode b_M_text 46 = .ok (.iload_n 1, 1) := by decide +kernel
theorem d_M_text_47 : decode b_M_text 47 = .ok (.imul, 1) := by decide +kernel
theorem d_M_text_48 : decode b_M_text 48 = .ok (.iload_n 3, 1) := by decide +kernel
theorem d_M_text_49 : decode b_M_text 49 = .ok (.iadd, 1) := by decide +kernel
theorem d_M_text_50 : decode b_M_text 50 = .ok (.bipush 32, 2) := by decide +kernel
theorem d_M_text_52 : decode b_M_text 52 = .ok (.bastore, 1) := by decide +kernel
theorem d_M_text_53 : decode b_M_text 53 = .ok (.iinc 3 1, 3) := by decide +kernel
theorem d_M_text_56 : decode b_M_text 56 = .ok (.goto (-22), 3) := by decide +kernel
theorem d_M_text_59 : decode b_M_text 59 = .ok (.iload_n 2, 1) := by decide +kernel
theorem d_M_text_60 : decode b_M_text 60 = .ok (.ireturn, 1) := by decide +kernel
theorem d_M_isText_0 : decode b_M_isText 0 = .ok (.iload_n 0, 1) := by decide +kernel
theorem d_M_isText_1 : decode b_M_isText 1 = .ok (.iconst 0, 1) := by decide +kernel
theorem d_M_isText_2 : decode b_M_isText 2 = .ok (.iconst 3, 1) := by decide +kernel
theorem d_M_isText_3 : decode b_M_isText 3 = .ok (.invokestatic 96, 3) := by decide +kernel
theorem d_M_isText_6 : decode b_M_isText 6 = .ok (.ireturn, 1) := by decide +kernel
theorem d_M_put_0 : decode b_M_put 0 = .ok (.iload_n 1, 1) := by decide +kernel
theorem d_M_put_1 : decode b_M_put 1 = .ok (.invokestatic 124, 3) := by decide +kernel
theorem d_M_put_4 : decode b_M_put 4 = .ok (.ifCond .ne 5, 3) := by decide +kernel
theorem d_M_put_7 : decode b_M_put 7 = .ok (.iconst (-1), 1) := by decide +kernel
theorem d_M_put_8 : decode b_M_put 8 = .ok (.ireturn, 1) := by decide +kernel
theorem d_M_put_9 : decode b_M_put 9 = .ok (.aload_n 0, 1) := by decide +kernel
theorem d_M_put_10 : decode b_M_put 10 = .ok (.getfield 22, 3) := by decide +kernel
theorem d_M_put_13 : decode b_M_put 13 = .ok (.iload_n 1, 1) := by decide +kernel
theorem d_M_put_14 : decode b_M_put 14 = .ok (.iaload, 1) := by decide +kernel
theorem d_M_put_15 : decode b_M_put 15 = .ok (.ifCond .ge 9, 3) := by decide +kernel
theorem d_M_put_18 : decode b_M_put 18 = .ok (.aload_n 0, 1) := by decide +kernel
theorem d_M_put_19 : decode b_M_put 19 = .ok (.iconst 1, 1) := by decide +kernel
theorem d_M_put_20 : decode b_M_put 20 = .ok (.invokevirtual 114, 3) := by decide +kernel
theorem d_M_put_23 : decode b_M_put 23 = .ok (.ireturn, 1) := by decide +kernel
theorem d_M_put_24 : decode b_M_put 24 = .ok (.iload_n 2, 1) := by decide +kernel
theorem d_M_put_25 : decode b_M_put 25 = .ok (.iconst 0, 1) := by decide +kernel
theorem d_M_put_26 : decode b_M_put 26 = .ok (.aload_n 0, 1) := by decide +kernel
theorem d_M_put_27 : decode b_M_put 27 = .ok (.getfield 22, 3) := by decide +kernel
theorem d_M_put_30 : decode b_M_put 30 = .ok (.iload_n 1, 1) := by decide +kernel
theorem d_M_put_31 : decode b_M_put 31 = .ok (.iaload, 1) := by decide +kernel
theorem d_M_put_32 : decode b_M_put 32 = .ok (.iconst 1, 1) := by decide +kernel
theorem d_M_put_33 : decode b_M_put 33 = .ok (.isub, 1) := by decide +kernel
theorem d_M_put_34 : decode b_M_put 34 = .ok (.invokestatic 96, 3) := by decide +kernel
theorem d_M_put_37 : decode b_M_put 37 = .ok (.ifCond .ne 9, 3) := by decide +kernel
theorem d_M_put_40 : decode b_M_put 40 = .ok (.aload_n 0, 1) := by decide +kernel
theorem d_M_put_41 : decode b_M_put 41 = .ok (.iconst 2, 1) := by decide +kernel
theorem d_M_put_42 : decode b_M_put 42 = .ok (.invokevirtual 114, 3) := by decide +kernel
theorem d_M_put_45 : decode b_M_put 45 = .ok (.ireturn, 1) := by decide +kernel
theorem d_M_put_46 : decode b_M_put 46 = .ok (.aload_n 0, 1) := by decide +kernel
theorem d_M_put_47 : decode b_M_put 47 = .ok (.getfield 25, 3) := by decide +kernel
theorem d_M_put_50 : decode b_M_put 50 = .ok (.bipush 60, 2) := by decide +kernel
theorem d_M_put_52 : decode b_M_put 52 = .ok (.iload_n 1, 1) := by decide +kernel
theorem d_M_put_53 : decode b_M_put 53 = .ok (.imul, 1) := by decide +kernel
theorem d_M_put_54 : decode b_M_put 54 = .ok (.iload_n 2, 1) := by decide +kernel
theorem d_M_put_55 : decode b_M_put 55 = .ok (.iadd, 1) := by decide +kernel
theorem d_M_put_56 : decode b_M_put 56 = .ok (.baload, 1) := by decide +kernel
theorem d_M_put_57 : decode b_M_put 57 = .ok (.istore 4, 2) := by decide +kernel
theorem d_M_put_59 : decode b_M_put 59 = .ok (.aload_n 0, 1) := by decide +kernel
theorem d_M_put_60 : decode b_M_put 60 = .ok (.getfield 25, 3) := by decide +kernel
theorem d_M_put_63 : decode b_M_put 63 = .ok (.bipush 60, 2) := by decide +kernel
theorem d_M_put_65 : decode b_M_put 65 = .ok (.iload_n 1, 1) := by decide +kernel
theorem d_M_put_66 : decode b_M_put 66 = .ok (.imul, 1) := by decide +kernel
theorem d_M_put_67 : decode b_M_put 67 = .ok (.iload_n 2, 1) := by decide +kernel
theorem d_M_put_68 : decode b_M_put 68 = .ok (.iadd, 1) := by decide +kernel
theorem d_M_put_69 : decode b_M_put 69 = .ok (.iload_n 3, 1) := by decide +kernel
theorem d_M_put_70 : decode b_M_put 70 = .ok (.i2b, 1) := by decide +kernel
theorem d_M_put_71 : decode b_M_put 71 = .ok (.bastore, 1) := by decide +kernel
theorem d_M_put_72 : decode b_M_put 72 = .ok (.sipush 1000, 3) := by decide +kernel
theorem d_M_put_75 : decode b_M_put 75 = .ok (.iload 4, 2) := by decide +kernel
theorem d_M_put_77 : decode b_M_put 77 = .ok (.iadd, 1) := by decide +kernel
theorem d_M_put_78 : decode b_M_put 78 = .ok (.ireturn, 1) := by decide +kernel
theorem d_M_fault_0 : decode b_M_fault 0 = .ok (.iload_n 1, 1) := by decide +kernel
theorem d_M_fault_1 : decode b_M_fault 1 = .ok (.invokestatic 124, 3) := by decide +kernel
theorem d_M_fault_4 : decode b_M_fault 4 = .ok (.ifCond .ne 5, 3) := by decide +kernel
theorem d_M_fault_7 : decode b_M_fault 7 = .ok (.iconst (-1), 1) := by decide +kernel
theorem d_M_fault_8 : decode b_M_fault 8 = .ok (.ireturn, 1) := by decide +kernel
theorem d_M_fault_9 : decode b_M_fault 9 = .ok (.aload_n 0, 1) := by decide +kernel
theorem d_M_fault_10 : decode b_M_fault 10 = .ok (.getfield 22, 3) := by decide +kernel
theorem d_M_fault_13 : decode b_M_fault 13 = .ok (.iload_n 1, 1) := by decide +kernel
theorem d_M_fault_14 : decode b_M_fault 14 = .ok (.iaload, 1) := by decide +kernel
theorem d_M_fault_15 : decode b_M_fault 15 = .ok (.ifCond .ge 11, 3) := by decide +kernel
theorem d_M_fault_18 : decode b_M_fault 18 = .ok (.aload_n 0, 1) := by decide +kernel
theorem d_M_fault_19 : decode b_M_fault 19 = .ok (.iconst 1, 1) := by decide +kernel
theorem d_M_fault_20 : decode b_M_fault 20 = .ok (.invokevirtual 114, 3) := by decide +kernel
theorem d_M_fault_23 : decode b_M_fault 23 = .ok (.goto 8, 3) := by decide +kernel
theorem d_M_fault_26 : decode b_M_fault 26 = .ok (.aload_n 0, 1) := by decide +kernel
theorem d_M_fault_27 : decode b_M_fault 27 = .ok (.iload_n 1, 1) := by decide +kernel
theorem d_M_fault_28 : decode b_M_fault 28 = .ok (.invokevirtual 169, 3) := by decide +kernel
theorem d_M_fault_31 : decode b_M_fault 31 = .ok (.ireturn, 1) := by decide +kernel
theorem d_M_faultOf_0 : decode b_M_faultOf 0 = .ok (.aload_n 0, 1) := by decide +kernel
theorem d_M_faultOf_1 : decode b_M_faultOf 1 = .ok (.iconst 0, 1) := by decide +kernel
theorem d_M_faultOf_2 : decode b_M_faultOf 2 = .ok (.putfield 138, 3) := by decide +kernel
theorem d_M_faultOf_5 : decode b_M_faultOf 5 = .ok (.aload_n 0, 1) := by decide +kernel
theorem d_M_faultOf_6 : decode b_M_faultOf 6 = .ok (.iconst 0, 1) := by decide +kernel
theorem d_M_faultOf_7 : decode b_M_faultOf 7 = .ok (.putfield 148, 3) := by decide +kernel
theorem d_M_faultOf_10 : decode b_M_faultOf 10 = .ok (.aload_n 0, 1) := by decide +kernel
theorem d_M_faultOf_11 : decode b_M_faultOf 11 = .ok (.iconst 1, 1) := by decide +kernel
theorem d_M_faultOf_12 : decode b_M_faultOf 12 = .ok (.putfield 144, 3) := by decide +kernel
theorem d_M_faultOf_15 : decode b_M_faultOf 15 = .ok (.aload_n 0, 1) := by decide +kernel
theorem d_M_faultOf_16 : decode b_M_faultOf 16 = .ok (.iconst 0, 1) := by decide +kernel
theorem d_M_faultOf_17 : decode b_M_faultOf 17 = .ok (.putfield 163, 3) := by decide +kernel
theorem d_M_faultOf_20 : decode b_M_faultOf 20 = .ok (.aload_n 0, 1) := by decide +kernel
theorem d_M_faultOf_21 : decode b_M_faultOf 21 = .ok (.iconst 0, 1) := by decide +kernel
theorem d_M_faultOf_22 : decode b_M_faultOf 22 = .ok (.putfield 151, 3) := by decide +kernel
theorem d_M_faultOf_25 : decode b_M_faultOf 25 = .ok (.aload_n 0, 1) := by decide +kernel
theorem d_M_faultOf_26 : decode b_M_faultOf 26 = .ok (.getfield 138, 3) := by decide +kernel
theorem d_M_faultOf_29 : decode b_M_faultOf 29 = .ok (.aload_n 0, 1) := by decide +kernel
theorem d_M_faultOf_30 : decode b_M_faultOf 30 = .ok (.getfield 22, 3) := by decide +kernel
theorem d_M_faultOf_33 : decode b_M_faultOf 33 = .ok (.iload_n 1, 1) := by decide +kernel
theorem d_M_faultOf_34 : decode b_M_faultOf 34 = .ok (.iaload, 1) := by decide +kernel
theorem d_M_faultOf_35 : decode b_M_faultOf 35 = .ok (.if_icmp .ge 51, 3) := by decide +kernel
theorem d_M_faultOf_38 : decode b_M_faultOf 38 = .ok (.aload_n 0, 1) := by decide +kernel
theorem d_M_faultOf_39 : decode b_M_faultOf 39 = .ok (.iload_n 1, 1) := by decide +kernel
theorem d_M_faultOf_40 : decode b_M_faultOf 40 = .ok (.aload_n 0, 1) := by decide +kernel
theorem d_M_faultOf_41 : decode b_M_faultOf 41 = .ok (.getfield 138, 3) := by decide +kernel
theorem d_M_faultOf_44 : decode b_M_faultOf 44 = .ok (.invokevirtual 141, 3) := by decide +kernel
theorem d_M_faultOf_47 : decode b_M_faultOf 47 = .ok (.bipush 32, 2) := by decide +kernel
theorem d_M_faultOf_49 : decode b_M_faultOf 49 = .ok (.if_icmp .ne 16, 3) := by decide +kernel
theorem d_M_faultOf_52 : decode b_M_faultOf 52 = .ok (.aload_n 0, 1) := by decide +kernel
theorem d_M_faultOf_53 : decode b_M_faultOf 53 = .ok (.dup, 1) := by decide +kernel
theorem d_M_faultOf_54 : decode b_M_faultOf 54 = .ok (.getfield 138, 3) := by decide +kernel
theorem d_M_faultOf_57 : decode b_M_faultOf 57 = .ok (.iconst 1, 1) := by decide +kernel
theorem d_M_faultOf_58 : decode b_M_faultOf 58 = .ok (.iadd, 1) := by decide +kernel
theorem d_M_faultOf_59 : decode b_M_faultOf 59 = .ok (.putfield 138, 3) := by decide +kernel
theorem d_M_faultOf_62 : decode b_M_faultOf 62 = .ok (.goto (-37), 3) := by decide +kernel
theorem d_M_faultOf_65 : decode b_M_faultOf 65 = .ok (.aload_n 0, 1) := by decide +kernel
theorem d_M_faultOf_66 : decode b_M_faultOf 66 = .ok (.iload_n 1, 1) := by decide +kernel
theorem d_M_faultOf_67 : decode b_M_faultOf 67 = .ok (.invokevirtual 166, 3) := by decide +kernel
theorem d_M_faultOf_70 : decode b_M_faultOf 70 = .ok (.ifCond .ne 8, 3) := by decide +kernel
theorem d_M_faultOf_73 : decode b_M_faultOf 73 = .ok (.aload_n 0, 1) := by decide +kernel
theorem d_M_faultOf_74 : decode b_M_faultOf 74 = .ok (.getfield 138, 3) := by decide +kernel
theorem d_M_faultOf_77 : decode b_M_faultOf 77 = .ok (.ireturn, 1) := by decide +kernel
theorem d_M_faultOf_78 : decode b_M_faultOf 78 = .ok (.aload_n 0, 1) := by decide +kernel
theorem d_M_faultOf_79 : decode b_M_faultOf 79 = .ok (.iconst 0, 1) := by decide +kernel
theorem d_M_faultOf_80 : decode b_M_faultOf 80 = .ok (.putfield 144, 3) := by decide +kernel
theorem d_M_faultOf_83 : decode b_M_faultOf 83 = .ok (.goto (-58), 3) := by decide +kernel
theorem d_M_faultOf_86 : decode b_M_faultOf 86 = .ok (.bipush (-9), 2) := by decide +kernel
theorem d_M_faultOf_88 : decode b_M_faultOf 88 = .ok (.ireturn, 1) := by decide +kernel
theorem d_M_byteAt_0 : decode b_M_byteAt 0 = .ok (.iload_n 2, 1) := by decide +kernel
theorem d_M_byteAt_1 : decode b_M_byteAt 1 = .ok (.aload_n 0, 1) := by decide +kernel
theorem d_M_byteAt_2 : decode b_M_byteAt 2 = .ok (.getfield 22, 3) := by decide +kernel
theorem d_M_byteAt_5 : decode b_M_byteAt 5 = .ok (.iload_n 1, 1) := by decide +kernel
theorem d_M_byteAt_6 : decode b_M_byteAt 6 = .ok (.iaload, 1) := by decide +kernel
theorem d_M_byteAt_7 : decode b_M_byteAt 7 = .ok (.if_icmp .ge 17, 3) := by decide +kernel
theorem d_M_byteAt_10 : decode b_M_byteAt 10 = .ok (.aload_n 0, 1) := by decide +kernel
theorem d_M_byteAt_11 : decode b_M_byteAt 11 = .ok (.getfield 25, 3) := by decide +kernel
theorem d_M_byteAt_14 : decode b_M_byteAt 14 = .ok (.bipush 60, 2) := by decide +kernel
theorem d_M_byteAt_16 : decode b_M_byteAt 16 = .ok (.iload_n 1, 1) := by decide +kernel
theorem d_M_byteAt_17 : decode b_M_byteAt 17 = .ok (.imul, 1) := by decide +kernel
theorem d_M_byteAt_18 : decode b_M_byteAt 18 = .ok (.iload_n 2, 1) := by decide +kernel
theorem d_M_byteAt_19 : decode b_M_byteAt 19 = .ok (.iadd, 1) := by decide +kernel
theorem d_M_byteAt_20 : decode b_M_byteAt 20 = .ok (.baload, 1) := by decide +kernel
theorem d_M_byteAt_21 : decode b_M_byteAt 21 = .ok (.goto 4, 3) := by decide +kernel
theorem d_M_byteAt_24 : decode b_M_byteAt 24 = .ok (.iconst 0, 1) := by decide +kernel
theorem d_M_byteAt_25 : decode b_M_byteAt 25 = .ok (.ireturn, 1) := by decide +kernel
theorem d_M_readsItem_0 : decode b_M_readsItem 0 = .ok (.aload_n 0, 1) := by decide +kernel
theorem d_M_readsItem_1 : decode b_M_readsItem 1 = .ok (.iload_n 1, 1) := by decide +kernel
theorem d_M_readsItem_2 : decode b_M_readsItem 2 = .ok (.aload_n 0, 1) := by decide +kernel
theorem d_M_readsItem_3 : decode b_M_readsItem 3 = .ok (.getfield 138, 3) := by decide +kernel
theorem d_M_readsItem_6 : decode b_M_readsItem 6 = .ok (.invokevirtual 141, 3) := by decide +kernel
theorem d_M_readsItem_9 : decode b_M_readsItem 9 = .ok (.istore_n 2, 1) := by decide +kernel
theorem d_M_readsItem_10 : decode b_M_readsItem 10 = .ok (.iload_n 2, 1) := by decide +kernel
theorem d_M_readsItem_11 : decode b_M_readsItem 11 = .ok (.bipush 108, 2) := by decide +kernel
theorem d_M_readsItem_13 : decode b_M_readsItem 13 = .ok (.if_icmp .ne 9, 3) := by decide +kernel
theorem d_M_readsItem_16 : decode b_M_readsItem 16 = .ok (.aload_n 0, 1) := by decide +kernel
theorem d_M_readsItem_17 : decode b_M_readsItem 17 = .ok (.iload_n 1, 1) := by decide +kernel
theorem d_M_readsItem_18 : decode b_M_readsItem 18 = .ok (.invokevirtual 154, 3) := by decide +kernel
theorem d_M_readsItem_21 : decode b_M_readsItem 21 = .ok (.ireturn, 1) := by decide +kernel
theorem d_M_readsItem_22 : decode b_M_readsItem 22 = .ok (.iload_n 2, 1) := by decide +kernel
theorem d_M_readsItem_23 : decode b_M_readsItem 23 = .ok (.bipush 110, 2) := by decide +kernel
theorem d_M_readsItem_25 : decode b_M_readsItem 25 = .ok (.if_icmp .ne 9, 3) := by decide +kernel
theorem d_M_readsItem_28 : decode b_M_readsItem 28 = .ok (.aload_n 0, 1) := by decide +kernel
theorem d_M_readsItem_29 : decode b_M_readsItem 29 = .ok (.iload_n 1, 1) := by decide +kernel
theorem d_M_readsItem_30 : decode b_M_readsItem 30 = .ok (.invokevirtual 157, 3) := by decide +kernel
theorem d_M_readsItem_33 : decode b_M_readsItem 33 = .ok (.ireturn, 1) := by decide +kernel
theorem d_M_readsItem_34 : decode b_M_readsItem 34 = .ok (.iload_n 2, 1) := by decide +kernel
theorem d_M_readsItem_35 : decode b_M_readsItem 35 = .ok (.invokestatic 160, 3) := by decide +kernel
theorem d_M_readsItem_38 : decode b_M_readsItem 38 = .ok (.bipush (-9), 2) := by decide +kernel
theorem d_M_readsItem_40 : decode b_M_readsItem 40 = .ok (.if_icmp .eq 11, 3) := by decide +kernel
theorem d_M_readsItem_43 : decode b_M_readsItem 43 = .ok (.aload_n 0, 1) := by decide +kernel
theorem d_M_readsItem_44 : decode b_M_readsItem 44 = .ok (.getfield 163, 3) := by decide +kernel
theorem d_M_readsItem_47 : decode b_M_readsItem 47 = .ok (.iconst 2, 1) := by decide +kernel
theorem d_M_readsItem_48 : decode b_M_readsItem 48 = .ok (.if_icmp .ne 5, 3) := by decide +kernel
theorem d_M_readsItem_51 : decode b_M_readsItem 51 = .ok (.iconst 0, 1) := by decide +kernel
theorem d_M_readsItem_52 : decode b_M_readsItem 52 = .ok (.ireturn, 1) := by decide +kernel
theorem d_M_readsItem_53 : decode b_M_readsItem 53 = .ok (.aload_n 0, 1) := by decide +kernel
theorem d_M_readsItem_54 : decode b_M_readsItem 54 = .ok (.getfield 38, 3) := by decide +kernel
theorem d_M_readsItem_57 : decode b_M_readsItem 57 = .ok (.aload_n 0, 1) := by decide +kernel
theorem d_M_readsItem_58 : decode b_M_readsItem 58 = .ok (.getfield 163, 3) := by decide +kernel
theorem d_M_readsItem_61 : decode b_M_readsItem 61 = .ok (.iload_n 2, 1) := by decide +kernel
theorem d_M_readsItem_62 : decode b_M_readsItem 62 = .ok (.invokestatic 160, 3) := by decide +kernel
theorem d_M_readsItem_65 : decode b_M_readsItem 65 = .ok (.iastore, 1) := by decide +kernel
theorem d_M_readsItem_66 : decode b_M_readsItem 66 = .ok (.aload_n 0, 1) := by decide +kernel
theorem d_M_readsItem_67 : decode b_M_readsItem 67 = .ok (.dup, 1) := by decide +kernel
theorem d_M_readsItem_68 : decode b_M_readsItem 68 = .ok (.getfield 163, 3) := by decide +kernel
theorem d_M_readsItem_71 : decode b_M_readsItem 71 = .ok (.iconst 1, 1) := by decide +kernel
theorem d_M_readsItem_72 : decode b_M_readsItem 72 = .ok (.iadd, 1) := by decide +kernel
theorem d_M_readsItem_73 : decode b_M_readsItem 73 = .ok (.putfield 163, 3) := by decide +kernel
theorem d_M_readsItem_76 : decode b_M_readsItem 76 = .ok (.aload_n 0, 1) := by decide +kernel
theorem d_M_readsItem_77 : decode b_M_readsItem 77 = .ok (.dup, 1) := by decide +kernel
theorem d_M_readsItem_78 : decode b_M_readsItem 78 = .ok (.getfield 138, 3) := by decide +kernel
theorem d_M_readsItem_81 : decode b_M_readsItem 81 = .ok (.iconst 1, 1) := by decide +kernel
theorem d_M_readsItem_82 : decode b_M_readsItem 82 = .ok (.iadd, 1) := by decide +kernel
theorem d_M_readsItem_83 : decode b_M_readsItem 83 = .ok (.putfield 138, 3) := by decide +kernel
theorem d_M_readsItem_86 : decode b_M_readsItem 86 = .ok (.iconst 1, 1) := by decide +kernel
theorem d_M_readsItem_87 : decode b_M_readsItem 87 = .ok (.ireturn, 1) := by decide +kernel
theorem d_M_readsLaw_0 : decode b_M_readsLaw 0 = .ok (.aload_n 0, 1) := by decide +kernel
theorem d_M_readsLaw_1 : decode b_M_readsLaw 1 = .ok (.iload_n 1, 1) := by decide +kernel
theorem d_M_readsLaw_2 : decode b_M_readsLaw 2 = .ok (.aload_n 0, 1) := by decide +kernel
theorem d_M_readsLaw_3 : decode b_M_readsLaw 3 = .ok (.getfield 138, 3) := by decide +kernel
theorem d_M_readsLaw_6 : decode b_M_readsLaw 6 = .ok (.iconst 1, 1) := by decide +kernel
theorem d_M_readsLaw_7 : decode b_M_readsLaw 7 = .ok (.iadd, 1) := by decide +kernel
theorem d_M_readsLaw_8 : decode b_M_readsLaw 8 = .ok (.invokevirtual 141, 3) := by decide +kernel
theorem d_M_readsLaw_11 : decode b_M_readsLaw 11 = .ok (.bipush 48, 2) := by decide +kernel
theorem d_M_readsLaw_13 : decode b_M_readsLaw 13 = .ok (.isub, 1) := by decide +kernel
theorem d_M_readsLaw_14 : decode b_M_readsLaw 14 = .ok (.istore_n 2, 1) := by decide +kernel
theorem d_M_readsLaw_15 : decode b_M_readsLaw 15 = .ok (.aload_n 0, 1) := by decide +kernel
theorem d_M_readsLaw_16 : decode b_M_readsLaw 16 = .ok (.getfield 144, 3) := by decide +kernel
theorem d_M_readsLaw_19 : decode b_M_readsLaw 19 = .ok (.ifCond .ne 5, 3) := by decide +kernel
theorem d_M_readsLaw_22 : decode b_M_readsLaw 22 = .ok (.iconst 0, 1) := by decide +kernel
theorem d_M_readsLaw_23 : decode b_M_readsLaw 23 = .ok (.ireturn, 1) := by decide +kernel
theorem d_M_readsLaw_24 : decode b_M_readsLaw 24 = .ok (.aload_n 0, 1) := by decide +kernel
theorem d_M_readsLaw_25 : decode b_M_readsLaw 25 = .ok (.dup, 1) := by decide +kernel
theorem d_M_readsLaw_26 : decode b_M_readsLaw 26 = .ok (.getfield 138, 3) := by decide +kernel
theorem d_M_readsLaw_29 : decode b_M_readsLaw 29 = .ok (.iconst 1, 1) := by decide +kernel
theorem d_M_readsLaw_30 : decode b_M_readsLaw 30 = .ok (.iadd, 1) := by decide +kernel
theorem d_M_readsLaw_31 : decode b_M_readsLaw 31 = .ok (.putfield 138, 3) := by decide +kernel
theorem d_M_readsLaw_34 : decode b_M_readsLaw 34 = .ok (.aload_n 0, 1) := by decide +kernel
theorem d_M_readsLaw_35 : decode b_M_readsLaw 35 = .ok (.iload_n 2, 1) := by decide +kernel
theorem d_M_readsLaw_36 : decode b_M_readsLaw 36 = .ok (.putfield 148, 3) := by decide +kernel
theorem d_M_readsLaw_39 : decode b_M_readsLaw 39 = .ok (.aload_n 0, 1) := by decide +kernel
theorem d_M_readsLaw_40 : decode b_M_readsLaw 40 = .ok (.dup, 1) := by decide +kernel
theorem d_M_readsLaw_41 : decode b_M_readsLaw 41 = .ok (.getfield 138, 3) := by decide +kernel
theorem d_M_readsLaw_44 : decode b_M_readsLaw 44 = .ok (.iload_n 2, 1) := by decide +kernel
theorem d_M_readsLaw_45 : decode b_M_readsLaw 45 = .ok (.iconst 0, 1) := by decide +kernel
theorem d_M_readsLaw_46 : decode b_M_readsLaw 46 = .ok (.iconst 2, 1) := by decide +kernel
theorem d_M_readsLaw_47 : decode b_M_readsLaw 47 = .ok (.invokestatic 96, 3) := by decide +kernel
theorem d_M_readsLaw_50 : decode b_M_readsLaw 50 = .ok (.ifCond .eq 7, 3) := by decide +kernel
theorem d_M_readsLaw_53 : decode b_M_readsLaw 53 = .ok (.iconst 1, 1) := by decide +kernel
theorem d_M_readsLaw_54 : decode b_M_readsLaw 54 = .ok (.goto 4, 3) := by decide +kernel
theorem d_M_readsLaw_57 : decode b_M_readsLaw 57 = .ok (.iconst 0, 1) := by decide +kernel
theorem d_M_readsLaw_58 : decode b_M_readsLaw 58 = .ok (.iadd, 1) := by decide +kernel
theorem d_M_readsLaw_59 : decode b_M_readsLaw 59 = .ok (.putfield 138, 3) := by decide +kernel
theorem d_M_readsLaw_62 : decode b_M_readsLaw 62 = .ok (.iload_n 2, 1) := by decide +kernel
theorem d_M_readsLaw_63 : decode b_M_readsLaw 63 = .ok (.iconst 0, 1) := by decide +kernel
theorem d_M_readsLaw_64 : decode b_M_readsLaw 64 = .ok (.iconst 2, 1) := by decide +kernel
theorem d_M_readsLaw_65 : decode b_M_readsLaw 65 = .ok (.invokestatic 96, 3) := by decide +kernel
theorem d_M_readsLaw_68 : decode b_M_readsLaw 68 = .ok (.ireturn, 1) := by decide +kernel
theorem d_M_readsNumber_0 : decode b_M_readsNumber 0 = .ok (.aload_n 0, 1) := by decide +kernel
theorem d_M_readsNumber_1 : decode b_M_readsNumber 1 = .ok (.getfield 151, 3) := by decide +kernel
theorem d_M_readsNumber_4 : decode b_M_readsNumber 4 = .ok (.bipush 12, 2) := by decide +kernel
theorem d_M_readsNumber_6 : decode b_M_readsNumber 6 = .ok (.if_icmp .ne 5, 3) := by decide +kernel
theorem d_M_readsNumber_9 : decode b_M_readsNumber 9 = .ok (.iconst 0, 1) := by decide +kernel
theorem d_M_readsNumber_10 : decode b_M_readsNumber 10 = .ok (.ireturn, 1) := by decide +kernel
theorem d_M_readsNumber_11 : decode b_M_readsNumber 11 = .ok (.aload_n 0, 1) := by decide +kernel
theorem d_M_readsNumber_12 : decode b_M_readsNumber 12 = .ok (.dup, 1) := by decide +kernel
theorem d_M_readsNumber_13 : decode b_M_readsNumber 13 = .ok (.getfield 138, 3) := by decide +kernel
theorem d_M_readsNumber_16 : decode b_M_readsNumber 16 = .ok (.iconst 1, 1) := by decide +kernel
theorem d_M_readsNumber_17 : decode b_M_readsNumber 17 = .ok (.iadd, 1) := by decide +kernel
theorem d_M_readsNumber_18 : decode b_M_readsNumber 18 = .ok (.putfield 138, 3) := by decide +kernel
theorem d_M_readsNumber_21 : decode b_M_readsNumber 21 = .ok (.iconst 0, 1) := by decide +kernel
theorem d_M_readsNumber_22 : decode b_M_readsNumber 22 = .ok (.istore_n 2, 1) := by decide +kernel
theorem d_M_readsNumber_23 : decode b_M_readsNumber 23 = .ok (.iconst 0, 1) := by decide +kernel
theorem d_M_readsNumber_24 : decode b_M_readsNumber 24 = .ok (.istore_n 3, 1) := by decide +kernel
theorem d_M_readsNumber_25 : decode b_M_readsNumber 25 = .ok (.iload_n 2, 1) := by decide +kernel
theorem d_M_readsNumber_26 : decode b_M_readsNumber 26 = .ok (.iconst 2, 1) := by decide +kernel
theorem d_M_readsNumber_27 : decode b_M_readsNumber 27 = .ok (.if_icmp .ge 56, 3) := by decide +kernel
theorem d_M_readsNumber_30 : decode b_M_readsNumber 30 = .ok (.aload_n 0, 1) := by decide +kernel
theorem d_M_readsNumber_31 : decode b_M_readsNumber 31 = .ok (.iload_n 1, 1) := by decide +kernel
theorem d_M_readsNumber_32 : decode b_M_readsNumber 32 = .ok (.aload_n 0, 1) := by decide +kernel
theorem d_M_readsNumber_33 : decode b_M_readsNumber 33 = .ok (.getfield 138, 3) := by decide +kernel
theorem d_M_readsNumber_36 : decode b_M_readsNumber 36 = .ok (.invokevirtual 141, 3) := by decide +kernel
theorem d_M_readsNumber_39 : decode b_M_readsNumber 39 = .ok (.bipush 48, 2) := by decide +kernel
theorem d_M_readsNumber_41 : decode b_M_readsNumber 41 = .ok (.bipush 57, 2) := by decide +kernel
theorem d_M_readsNumber_43 : decode b_M_readsNumber 43 = .ok (.invokestatic 96, 3) := by decide +kernel
theorem d_M_readsNumber_46 : decode b_M_readsNumber 46 = .ok (.ifCond .eq 37, 3) := by decide +kernel
theorem d_M_readsNumber_49 : decode b_M_readsNumber 49 = .ok (.bipush 10, 2) := by decide +kernel
theorem d_M_readsNumber_51 : decode b_M_readsNumber 51 = .ok (.iload_n 3, 1) := by decide +kernel
theorem d_M_readsNumber_52 : decode b_M_readsNumber 52 = .ok (.imul, 1) := by decide +kernel
theorem d_M_readsNumber_53 : decode b_M_readsNumber 53 = .ok (.aload_n 0, 1) := by decide +kernel
theorem d_M_readsNumber_54 : decode b_M_readsNumber 54 = .ok (.iload_n 1, 1) := by decide +kernel
theorem d_M_readsNumber_55 : decode b_M_readsNumber 55 = .ok (.aload_n 0, 1) := by decide +kernel
theorem d_M_readsNumber_56 : decode b_M_readsNumber 56 = .ok (.getfield 138, 3) := by decide +kernel
theorem d_M_readsNumber_59 : decode b_M_readsNumber 59 = .ok (.invokevirtual 141, 3) := by decide +kernel
theorem d_M_readsNumber_62 : decode b_M_readsNumber 62 = .ok (.iadd, 1) := by decide +kernel
theorem d_M_readsNumber_63 : decode b_M_readsNumber 63 = .ok (.bipush 48, 2) := by decide +kernel
theorem d_M_readsNumber_65 : decode b_M_readsNumber 65 = .ok (.isub, 1) := by decide +kernel
theorem d_M_readsNumber_66 : decode b_M_readsNumber 66 = .ok (.istore_n 3, 1) := by decide +kernel
theorem d_M_readsNumber_67 : decode b_M_readsNumber 67 = .ok (.aload_n 0, 1) := by decide +kernel
theorem d_M_readsNumber_68 : decode b_M_readsNumber 68 = .ok (.dup, 1) := by decide +kernel
theorem d_M_readsNumber_69 : decode b_M_readsNumber 69 = .ok (.getfield 138, 3) := by decide +kernel
theorem d_M_readsNumber_72 : decode b_M_readsNumber 72 = .ok (.iconst 1, 1) := by decide +kernel
theorem d_M_readsNumber_73 : decode b_M_readsNumber 73 = .ok (.iadd, 1) := by decide +kernel
theorem d_M_readsNumber_74 : decode b_M_readsNumber 74 = .ok (.putfield 138, 3) := by decide +kernel
theorem d_M_readsNumber_77 : decode b_M_readsNumber 77 = .ok (.iinc 2 1, 3) := by decide +kernel
theorem d_M_readsNumber_80 : decode b_M_readsNumber 80 = .ok (.goto (-55), 3) := by decide +kernel
theorem d_M_readsNumber_83 : decode b_M_readsNumber 83 = .ok (.iload_n 2, 1) := by decide +kernel
theorem d_M_readsNumber_84 : decode b_M_readsNumber 84 = .ok (.ifCond .eq 13, 3) := by decide +kernel
theorem d_M_readsNumber_87 : decode b_M_readsNumber 87 = .ok (.iload_n 3, 1) := by decide +kernel
theorem d_M_readsNumber_88 : decode b_M_readsNumber 88 = .ok (.iconst 2, 1) := by decide +kernel
theorem d_M_readsNumber_89 : decode b_M_readsNumber 89 = .ok (.bipush 60, 2) := by decide +kernel
theorem d_M_readsNumber_91 : decode b_M_readsNumber 91 = .ok (.invokestatic 96, 3) := by decide +kernel
theorem d_M_readsNumber_94 : decode b_M_readsNumber 94 = .ok (.ifCond .ne 5, 3) := by decide +kernel
theorem d_M_readsNumber_97 : decode b_M_readsNumber 97 = .ok (.iconst 0, 1) := by decide +kernel
theorem d_M_readsNumber_98 : decode b_M_readsNumber 98 = .ok (.ireturn, 1) := by decide +kernel
theorem d_M_readsNumber_99 : decode b_M_readsNumber 99 = .ok (.aload_n 0, 1) := by decide +kernel
theorem d_M_readsNumber_100 : decode b_M_readsNumber 100 = .ok (.aload_n 0, 1) := by decide +kernel
theorem d_M_readsNumber_101 : decode b_M_readsNumber 101 = .ok (.getfield 41, 3) := by decide +kernel
theorem d_M_readsNumber_104 : decode b_M_readsNumber 104 = .ok (.aload_n 0, 1) := by decide +kernel
theorem d_M_readsNumber_105 : decode b_M_readsNumber 105 = .ok (.getfield 151, 3) := by decide +kernel
theorem d_M_readsNumber_108 : decode b_M_readsNumber 108 = .ok (.aload_n 0, 1) := by decide +kernel
theorem d_M_readsNumber_109 : decode b_M_readsNumber 109 = .ok (.getfield 148, 3) := by decide +kernel
theorem d_M_readsNumber_112 : decode b_M_readsNumber 112 = .ok (.bipush 60, 2) := by decide +kernel
theorem d_M_readsNumber_114 : decode b_M_readsNumber 114 = .ok (.invokevirtual 131, 3) := by decide +kernel
theorem d_M_readsNumber_117 : decode b_M_readsNumber 117 = .ok (.aload_n 0, 1) := by decide +kernel
theorem d_M_readsNumber_118 : decode b_M_readsNumber 118 = .ok (.iload_n 3, 1) := by decide +kernel
theorem d_M_readsNumber_119 : decode b_M_readsNumber 119 = .ok (.invokevirtual 135, 3) := by decide +kernel
theorem d_M_readsNumber_122 : decode b_M_readsNumber 122 = .ok (.ifCond .eq 5, 3) := by decide +kernel
theorem d_M_readsNumber_125 : decode b_M_readsNumber 125 = .ok (.iconst 0, 1) := by decide +kernel
theorem d_M_readsNumber_126 : decode b_M_readsNumber 126 = .ok (.ireturn, 1) := by decide +kernel
theorem d_M_readsNumber_127 : decode b_M_readsNumber 127 = .ok (.aload_n 0, 1) := by decide +kernel
theorem d_M_readsNumber_128 : decode b_M_readsNumber 128 = .ok (.getfield 41, 3) := by decide +kernel
theorem d_M_readsNumber_131 : decode b_M_readsNumber 131 = .ok (.aload_n 0, 1) := by decide +kernel
theorem d_M_readsNumber_132 : decode b_M_readsNumber 132 = .ok (.getfield 151, 3) := by decide +kernel
theorem d_M_readsNumber_135 : decode b_M_readsNumber 135 = .ok (.iload_n 3, 1) := by decide +kernel
theorem d_M_readsNumber_136 : decode b_M_readsNumber 136 = .ok (.iastore, 1) := by decide +kernel
theorem d_M_readsNumber_137 : decode b_M_readsNumber 137 = .ok (.aload_n 0, 1) := by decide +kernel
theorem d_M_readsNumber_138 : decode b_M_readsNumber 138 = .ok (.dup, 1) := by decide +kernel
theorem d_M_readsNumber_139 : decode b_M_readsNumber 139 = .ok (.getfield 151, 3) := by decide +kernel
theorem d_M_readsNumber_142 : decode b_M_readsNumber 142 = .ok (.iconst 1, 1) := by decide +kernel
theorem d_M_readsNumber_143 : decode b_M_readsNumber 143 = .ok (.iadd, 1) := by decide +kernel
theorem d_M_readsNumber_144 : decode b_M_readsNumber 144 = .ok (.putfield 151, 3) := by decide +kernel
theorem d_M_readsNumber_147 : decode b_M_readsNumber 147 = .ok (.iconst 1, 1) := by decide +kernel
theorem d_M_readsNumber_148 : decode b_M_readsNumber 148 = .ok (.ireturn, 1) := by decide +kernel
theorem d_M_layFew_0 : decode b_M_layFew 0 = .ok (.iconst 1, 1) := by decide +kernel
theorem d_M_layFew_1 : decode b_M_layFew 1 = .ok (.istore 5, 2) := by decide +kernel
theorem d_M_layFew_3 : decode b_M_layFew 3 = .ok (.iload 5, 2) := by decide +kernel
theorem d_M_layFew_5 : decode b_M_layFew 5 = .ok (.iload 4, 2) := by decide +kernel
theorem d_M_layFew_7 : decode b_M_layFew 7 = .ok (.if_icmp .gt 18, 3) := by decide +kernel
theorem d_M_layFew_10 : decode b_M_layFew 10 = .ok (.aload_n 0, 1) := by decide +kernel
theorem d_M_layFew_11 : decode b_M_layFew 11 = .ok (.getfield 29, 3) := by decide +kernel
theorem d_M_layFew_14 : decode b_M_layFew 14 = .ok (.iload 5, 2) := by decide +kernel
theorem d_M_layFew_16 : decode b_M_layFew 16 = .ok (.ldc 127, 2) := by decide +kernel
theorem d_M_layFew_18 : decode b_M_layFew 18 = .ok (.iastore, 1) := by decide +kernel
theorem d_M_layFew_19 : decode b_M_layFew 19 = .ok (.iinc 5 1, 3) := by decide +kernel
theorem d_M_layFew_22 : decode b_M_layFew 22 = .ok (.goto (-19), 3) := by decide +kernel
theorem d_M_layFew_25 : decode b_M_layFew 25 = .ok (.aload_n 0, 1) := by decide +kernel
theorem d_M_layFew_26 : decode b_M_layFew 26 = .ok (.getfield 29, 3) := by decide +kernel
theorem d_M_layFew_29 : decode b_M_layFew 29 = .ok (.iconst 0, 1) := by decide +kernel
theorem d_M_layFew_30 : decode b_M_layFew 30 = .ok (.iconst 0, 1) := by decide +kernel
theorem d_M_layFew_31 : decode b_M_layFew 31 = .ok (.iastore, 1) := by decide +kernel
theorem d_M_layFew_32 : decode b_M_layFew 32 = .ok (.iconst 0, 1) := by decide +kernel
theorem d_M_layFew_33 : decode b_M_layFew 33 = .ok (.istore 5, 2) := by decide +kernel
theorem d_M_layFew_35 : decode b_M_layFew 35 = .ok (.iconst 0, 1) := by decide +kernel
theorem d_M_layFew_36 : decode b_M_layFew 36 = .ok (.istore 6, 2) := by decide +kernel
theorem d_M_layFew_38 : decode b_M_layFew 38 = .ok (.iload 6, 2) := by decide +kernel
theorem d_M_layFew_40 : decode b_M_layFew 40 = .ok (.iload_n 2, 1) := by decide +kernel
theorem d_M_layFew_41 : decode b_M_layFew 41 = .ok (.if_icmp .ge 140, 3) := by decide +kernel
theorem d_M_layFew_44 : decode b_M_layFew 44 = .ok (.aload_n 1, 1) := by decide +kernel
theorem d_M_layFew_45 : decode b_M_layFew 45 = .ok (.iload 6, 2) := by decide +kernel
theorem d_M_layFew_47 : decode b_M_layFew 47 = .ok (.iaload, 1) := by decide +kernel
theorem d_M_layFew_48 : decode b_M_layFew 48 = .ok (.istore 7, 2) := by decide +kernel
theorem d_M_layFew_50 : decode b_M_layFew 50 = .ok (.iload 5, 2) := by decide +kernel
theorem d_M_layFew_52 : decode b_M_layFew 52 = .ok (.iload 7, 2) := by decide +kernel
theorem d_M_layFew_54 : decode b_M_layFew 54 = .ok (.invokestatic 106, 3) := by decide +kernel
theorem d_M_layFew_57 : decode b_M_layFew 57 = .ok (.istore 5, 2) := by decide +kernel
theorem d_M_layFew_59 : decode b_M_layFew 59 = .ok (.iload 7, 2) := by decide +kernel
theorem d_M_layFew_61 : decode b_M_layFew 61 = .ok (.istore 8, 2) := by decide +kernel
theorem d_M_layFew_63 : decode b_M_layFew 63 = .ok (.iload 8, 2) := by decide +kernel
theorem d_M_layFew_65 : decode b_M_layFew 65 = .ok (.iload 4, 2) := by decide +kernel
theorem d_M_layFew_67 : decode b_M_layFew 67 = .ok (.if_icmp .gt 42, 3) := by decide +kernel
theorem d_M_layFew_70 : decode b_M_layFew 70 = .ok (.iload_n 3, 1) := by decide +kernel
theorem d_M_layFew_71 : decode b_M_layFew 71 = .ok (.ifCond .ne 38, 3) := by decide +kernel
theorem d_M_layFew_74 : decode b_M_layFew 74 = .ok (.aload_n 0, 1) := by decide +kernel
theorem d_M_layFew_75 : decode b_M_layFew 75 = .ok (.getfield 29, 3) := by decide +kernel
theorem d_M_layFew_78 : decode b_M_layFew 78 = .ok (.iload 8, 2) := by decide +kernel
theorem d_M_layFew_80 : decode b_M_layFew 80 = .ok (.aload_n 0, 1) := by decide +kernel
theorem d_M_layFew_81 : decode b_M_layFew 81 = .ok (.getfield 29, 3) := by decide +kernel
theorem d_M_layFew_84 : decode b_M_layFew 84 = .ok (.iload 8, 2) := by decide +kernel
theorem d_M_layFew_86 : decode b_M_layFew 86 = .ok (.iaload, 1) := by decide +kernel
theorem d_M_layFew_87 : decode b_M_layFew 87 = .ok (.aload_n 0, 1) := by decide +kernel
theorem d_M_layFew_88 : decode b_M_layFew 88 = .ok (.getfield 29, 3) := by decide +kernel
theorem d_M_layFew_91 : decode b_M_layFew 91 = .ok (.iload 8, 2) := by decide +kernel
theorem d_M_layFew_93 : decode b_M_layFew 93 = .ok (.iload 7, 2) := by decide +kernel
theorem d_M_layFew_95 : decode b_M_layFew 95 = .ok (.isub, 1) := by decide +kernel
theorem d_M_layFew_96 : decode b_M_layFew 96 = .ok (.iaload, 1) := by decide +kernel
theorem d_M_layFew_97 : decode b_M_layFew 97 = .ok (.iconst 1, 1) := by decide +kernel
theorem d_M_layFew_98 : decode b_M_layFew 98 = .ok (.iadd, 1) := by decide +kernel
theorem d_M_layFew_99 : decode b_M_layFew 99 = .ok (.invokestatic 128, 3) := by decide +kernel
theorem d_M_layFew_102 : decode b_M_layFew 102 = .ok (.iastore, 1) := by decide +kernel
theorem d_M_layFew_103 : decode b_M_layFew 103 = .ok (.iinc 8 1, 3) := by decide +kernel
theorem d_M_layFew_106 : decode b_M_layFew 106 = .ok (.goto (-43), 3) := by decide +kernel
theorem d_M_layFew_109 : decode b_M_layFew 109 = .ok (.iconst 0, 1) := by decide +kernel
theorem d_M_layFew_110 : decode b_M_layFew 110 = .ok (.istore 8, 2) := by decide +kernel
theorem d_M_layFew_112 : decode b_M_layFew 112 = .ok (.iload 8, 2) := by decide +kernel
theorem d_M_layFew_114 : decode b_M_layFew 114 = .ok (.iconst 3, 1) := by decide +kernel
theorem d_M_layFew_115 : decode b_M_layFew 115 = .ok (.if_icmp .ge 60, 3) := by decide +kernel
theorem d_M_layFew_118 : decode b_M_layFew 118 = .ok (.iload_n 3, 1) := by decide +kernel
theorem d_M_layFew_119 : decode b_M_layFew 119 = .ok (.iconst 2, 1) := by decide +kernel
theorem d_M_layFew_120 : decode b_M_layFew 120 = .ok (.if_icmp .ne 55, 3) := by decide +kernel
theorem d_M_layFew_123 : decode b_M_layFew 123 = .ok (.iload 4, 2) := by decide +kernel
theorem d_M_layFew_125 : decode b_M_layFew 125 = .ok (.istore 9, 2) := by decide +kernel
theorem d_M_layFew_127 : decode b_M_layFew 127 = .ok (.iload 9, 2) := by decide +kernel
theorem d_M_layFew_129 : decode b_M_layFew 129 = .ok (.iload 7, 2) := by decide +kernel
theorem d_M_layFew_131 : decode b_M_layFew 131 = .ok (.if_icmp .lt 38, 3) := by decide +kernel
theorem d_M_layFew_134 : decode b_M_layFew 134 = .ok (.aload_n 0, 1) := by decide +kernel
theorem d_M_layFew_135 : decode b_M_layFew 135 = .ok (.getfield 29, 3) := by decide +kernel
theorem d_M_layFew_138 : decode b_M_layFew 138 = .ok (.iload 9, 2) := by decide +kernel
theorem d_M_layFew_140 : decode b_M_layFew 140 = .ok (.aload_n 0, 1) := by decide +kernel
theorem d_M_layFew_141 : decode b_M_layFew 141 = .ok (.getfield 29, 3) := by decide +kernel
theorem d_M_layFew_144 : decode b_M_layFew 144 = .ok (.iload 9, 2) := by decide +kernel
theorem d_M_layFew_146 : decode b_M_layFew 146 = .ok (.iaload, 1) := by decide +kernel
theorem d_M_layFew_147 : decode b_M_layFew 147 = .ok (.aload_n 0, 1) := by decide +kernel
theorem d_M_layFew_148 : decode b_M_layFew 148 = .ok (.getfield 29, 3) := by decide +kernel
theorem d_M_layFew_151 : decode b_M_layFew 151 = .ok (.iload 9, 2) := by decide +kernel
theorem d_M_layFew_153 : decode b_M_layFew 153 = .ok (.iload 7, 2) := by decide +kernel
theorem d_M_layFew_155 : decode b_M_layFew 155 = .ok (.isub, 1) := by decide +kernel
theorem d_M_layFew_156 : decode b_M_layFew 156 = .ok (.iaload, 1) := by decide +kernel
theorem d_M_layFew_157 : decode b_M_layFew 157 = .ok (.iconst 1, 1) := by decide +kernel
theorem d_M_layFew_158 : decode b_M_layFew 158 = .ok (.iadd, 1) := by decide +kernel
theorem d_M_layFew_159 : decode b_M_layFew 159 = .ok (.invokestatic 128, 3) := by decide +kernel
theorem d_M_layFew_162 : decode b_M_layFew 162 = .ok (.iastore, 1) := by decide +kernel
theorem d_M_layFew_163 : decode b_M_layFew 163 = .ok (.iinc 9 (-1), 3) := by decide +kernel
theorem d_M_layFew_166 : decode b_M_layFew 166 = .ok (.goto (-39), 3) := by decide +kernel
theorem d_M_layFew_169 : decode b_M_layFew 169 = .ok (.iinc 8 1, 3) := by decide +kernel
theorem d_M_layFew_172 : decode b_M_layFew 172 = .ok (.goto (-60), 3) := by decide +kernel
theorem d_M_layFew_175 : decode b_M_layFew 175 = .ok (.iinc 6 1, 3) := by decide +kernel
theorem d_M_layFew_178 : decode b_M_layFew 178 = .ok (.goto (-140), 3) := by decide +kernel
theorem d_M_layFew_181 : decode b_M_layFew 181 = .ok (.iconst 1, 1) := by decide +kernel
theorem d_M_layFew_182 : decode b_M_layFew 182 = .ok (.istore 6, 2) := by decide +kernel
theorem d_M_layFew_184 : decode b_M_layFew 184 = .ok (.iload 6, 2) := by decide +kernel
theorem d_M_layFew_186 : decode b_M_layFew 186 = .ok (.iload 4, 2) := by decide +kernel
theorem d_M_layFew_188 : decode b_M_layFew 188 = .ok (.if_icmp .gt 40, 3) := by decide +kernel
theorem d_M_layFew_191 : decode b_M_layFew 191 = .ok (.iload_n 3, 1) := by decide +kernel
theorem d_M_layFew_192 : decode b_M_layFew 192 = .ok (.iconst 1, 1) := by decide +kernel
theorem d_M_layFew_193 : decode b_M_layFew 193 = .ok (.if_icmp .ne 35, 3) := by decide +kernel
theorem d_M_layFew_196 : decode b_M_layFew 196 = .ok (.iload 5, 2) := by decide +kernel
theorem d_M_layFew_198 : decode b_M_layFew 198 = .ok (.ifCond .le 30, 3) := by decide +kernel
theorem d_M_layFew_201 : decode b_M_layFew 201 = .ok (.aload_n 0, 1) := by decide +kernel
theorem d_M_layFew_202 : decode b_M_layFew 202 = .ok (.getfield 29, 3) := by decide +kernel
theorem d_M_layFew_205 : decode b_M_layFew 205 = .ok (.iload 6, 2) := by decide +kernel
theorem d_M_layFew_207 : decode b_M_layFew 207 = .ok (.iload 6, 2) := by decide +kernel
theorem d_M_layFew_209 : decode b_M_layFew 209 = .ok (.iload 5, 2) := by decide +kernel
theorem d_M_layFew_211 : decode b_M_layFew 211 = .ok (.irem, 1) := by decide +kernel
theorem d_M_layFew_212 : decode b_M_layFew 212 = .ok (.ifCond .ne 7, 3) := by decide +kernel
theorem d_M_layFew_215 : decode b_M_layFew 215 = .ok (.iconst 0, 1) := by decide +kernel
theorem d_M_layFew_216 : decode b_M_layFew 216 = .ok (.goto 5, 3) := by decide +kernel
theorem d_M_layFew_219 : decode b_M_layFew 219 = .ok (.ldc 127, 2) := by decide +kernel
theorem d_M_layFew_221 : decode b_M_layFew 221 = .ok (.iastore, 1) := by decide +kernel
theorem d_M_layFew_222 : decode b_M_layFew 222 = .ok (.iinc 6 1, 3) := by decide +kernel
theorem d_M_layFew_225 : decode b_M_layFew 225 = .ok (.goto (-41), 3) := by decide +kernel
theorem d_M_layFew_228 : decode b_M_layFew 228 = .ok (.return_, 1) := by decide +kernel
theorem d_M_divisor_0 : decode b_M_divisor 0 = .ok (.iload_n 0, 1) := by decide +kernel
theorem d_M_divisor_1 : decode b_M_divisor 1 = .ok (.istore_n 2, 1) := by decide +kernel
theorem d_M_divisor_2 : decode b_M_divisor 2 = .ok (.iload_n 1, 1) := by decide +kernel
theorem d_M_divisor_3 : decode b_M_divisor 3 = .ok (.istore_n 3, 1) := by decide +kernel
theorem d_M_divisor_4 : decode b_M_divisor 4 = .ok (.iload_n 3, 1) := by decide +kernel
theorem d_M_divisor_5 : decode b_M_divisor 5 = .ok (.ifCond .eq 16, 3) := by decide +kernel
theorem d_M_divisor_8 : decode b_M_divisor 8 = .ok (.iload_n 2, 1) := by decide +kernel
theorem d_M_divisor_9 : decode b_M_divisor 9 = .ok (.iload_n 3, 1) := by decide +kernel
theorem d_M_divisor_10 : decode b_M_divisor 10 = .ok (.irem, 1) := by decide +kernel
theorem d_M_divisor_11 : decode b_M_divisor 11 = .ok (.istore 4, 2) := by decide +kernel
theorem d_M_divisor_13 : decode b_M_divisor 13 = .ok (.iload_n 3, 1) := by decide +kernel
theorem d_M_divisor_14 : decode b_M_divisor 14 = .ok (.istore_n 2, 1) := by decide +kernel
theorem d_M_divisor_15 : decode b_M_divisor 15 = .ok (.iload 4, 2) := by decide +kernel
theorem d_M_divisor_17 : decode b_M_divisor 17 = .ok (.istore_n 3, 1) := by decide +kernel
theorem d_M_divisor_18 : decode b_M_divisor 18 = .ok (.goto (-14), 3) := by decide +kernel
theorem d_M_divisor_21 : decode b_M_divisor 21 = .ok (.iload_n 2, 1) := by decide +kernel
theorem d_M_divisor_22 : decode b_M_divisor 22 = .ok (.ireturn, 1) := by decide +kernel
theorem d_M_lesser_0 : decode b_M_lesser 0 = .ok (.iload_n 0, 1) := by decide +kernel
theorem d_M_lesser_1 : decode b_M_lesser 1 = .ok (.iload_n 1, 1) := by decide +kernel
theorem d_M_lesser_2 : decode b_M_lesser 2 = .ok (.if_icmp .ge 7, 3) := by decide +kernel
theorem d_M_lesser_5 : decode b_M_lesser 5 = .ok (.iload_n 0, 1) := by decide +kernel
theorem d_M_lesser_6 : decode b_M_lesser 6 = .ok (.goto 4, 3) := by decide +kernel
theorem d_M_lesser_9 : decode b_M_lesser 9 = .ok (.iload_n 1, 1) := by decide +kernel
theorem d_M_lesser_10 : decode b_M_lesser 10 = .ok (.ireturn, 1) := by decide +kernel
theorem d_M_isHad_0 : decode b_M_isHad 0 = .ok (.aload_n 0, 1) := by decide +kernel
theorem d_M_isHad_1 : decode b_M_isHad 1 = .ok (.getfield 29, 3) := by decide +kernel
theorem d_M_isHad_4 : decode b_M_isHad 4 = .ok (.iload_n 1, 1) := by decide +kernel
theorem d_M_isHad_5 : decode b_M_isHad 5 = .ok (.iaload, 1) := by decide +kernel
theorem d_M_isHad_6 : decode b_M_isHad 6 = .ok (.ldc 127, 2) := by decide +kernel
theorem d_M_isHad_8 : decode b_M_isHad 8 = .ok (.if_icmp .ge 7, 3) := by decide +kernel
theorem d_M_isHad_11 : decode b_M_isHad 11 = .ok (.iconst 1, 1) := by decide +kernel
theorem d_M_isHad_12 : decode b_M_isHad 12 = .ok (.goto 4, 3) := by decide +kernel
theorem d_M_isHad_15 : decode b_M_isHad 15 = .ok (.iconst 0, 1) := by decide +kernel
theorem d_M_isHad_16 : decode b_M_isHad 16 = .ok (.ireturn, 1) := by decide +kernel
theorem d_M_kindOf_0 : decode b_M_kindOf 0 = .ok (.iload_n 0, 1) := by decide +kernel
theorem d_M_kindOf_1 : decode b_M_kindOf 1 = .ok (.tableswitch 103 97 115 #[95, 97, 101, 103, 103, 103, 99, 103, 103, 103, 103, 103, 103, 103, 103, 91, 103, 103, 93], 91) := by decide +kernel
theorem d_M_kindOf_92 : decode b_M_kindOf 92 = .ok (.iconst 0, 1) := by decide +kernel
theorem d_M_kindOf_93 : decode b_M_kindOf 93 = .ok (.ireturn, 1) := by decide +kernel
theorem d_M_kindOf_94 : decode b_M_kindOf 94 = .ok (.iconst 1, 1) := by decide +kernel
theorem d_M_kindOf_95 : decode b_M_kindOf 95 = .ok (.ireturn, 1) := by decide +kernel
theorem d_M_kindOf_96 : decode b_M_kindOf 96 = .ok (.iconst 2, 1) := by decide +kernel
theorem d_M_kindOf_97 : decode b_M_kindOf 97 = .ok (.ireturn, 1) := by decide +kernel
theorem d_M_kindOf_98 : decode b_M_kindOf 98 = .ok (.iconst 3, 1) := by decide +kernel
theorem d_M_kindOf_99 : decode b_M_kindOf 99 = .ok (.ireturn, 1) := by decide +kernel
theorem d_M_kindOf_100 : decode b_M_kindOf 100 = .ok (.iconst 4, 1) := by decide +kernel
theorem d_M_kindOf_101 : decode b_M_kindOf 101 = .ok (.ireturn, 1) := by decide +kernel
theorem d_M_kindOf_102 : decode b_M_kindOf 102 = .ok (.iconst 5, 1) := by decide +kernel
theorem d_M_kindOf_103 : decode b_M_kindOf 103 = .ok (.ireturn, 1) := by decide +kernel
theorem d_M_kindOf_104 : decode b_M_kindOf 104 = .ok (.bipush (-9), 2) := by decide +kernel
theorem d_M_kindOf_106 : decode b_M_kindOf 106 = .ok (.ireturn, 1) := by decide +kernel
theorem d_M_game_0 : decode b_M_game 0 = .ok (.iload_n 1, 1) := by decide +kernel
theorem d_M_game_1 : decode b_M_game 1 = .ok (.invokestatic 124, 3) := by decide +kernel
theorem d_M_game_4 : decode b_M_game 4 = .ok (.ifCond .ne 5, 3) := by decide +kernel
theorem d_M_game_7 : decode b_M_game 7 = .ok (.iconst (-1), 1) := by decide +kernel
theorem d_M_game_8 : decode b_M_game 8 = .ok (.ireturn, 1) := by decide +kernel
theorem d_M_game_9 : decode b_M_game 9 = .ok (.aload_n 0, 1) := by decide +kernel
theorem d_M_game_10 : decode b_M_game 10 = .ok (.getfield 22, 3) := by decide +kernel
theorem d_M_game_13 : decode b_M_game 13 = .ok (.iload_n 1, 1) := by decide +kernel
theorem d_M_game_14 : decode b_M_game 14 = .ok (.iaload, 1) := by decide +kernel
theorem d_M_game_15 : decode b_M_game 15 = .ok (.ifCond .ge 9, 3) := by decide +kernel
theorem d_M_game_18 : decode b_M_game 18 = .ok (.aload_n 0, 1) := by decide +kernel
theorem d_M_game_19 : decode b_M_game 19 = .ok (.iconst 1, 1) := by decide +kernel
theorem d_M_game_20 : decode b_M_game 20 = .ok (.invokevirtual 114, 3) := by decide +kernel
theorem d_M_game_23 : decode b_M_game 23 = .ok (.ireturn, 1) := by decide +kernel
theorem d_M_game_24 : decode b_M_game 24 = .ok (.aload_n 0, 1) := by decide +kernel
theorem d_M_game_25 : decode b_M_game 25 = .ok (.iload_n 1, 1) := by decide +kernel
theorem d_M_game_26 : decode b_M_game 26 = .ok (.invokevirtual 169, 3) := by decide +kernel
theorem d_M_game_29 : decode b_M_game 29 = .ok (.bipush (-9), 2) := by decide +kernel
theorem d_M_game_31 : decode b_M_game 31 = .ok (.if_icmp .eq 6, 3) := by decide +kernel
theorem d_M_game_34 : decode b_M_game 34 = .ok (.bipush (-4), 2) := by decide +kernel
theorem d_M_game_36 : decode b_M_game 36 = .ok (.ireturn, 1) := by decide +kernel
theorem d_M_game_37 : decode b_M_game 37 = .ok (.aload_n 0, 1) := by decide +kernel
theorem d_M_game_38 : decode b_M_game 38 = .ok (.aload_n 0, 1) := by decide +kernel
theorem d_M_game_39 : decode b_M_game 39 = .ok (.getfield 148, 3) := by decide +kernel
theorem d_M_game_42 : decode b_M_game 42 = .ok (.putfield 172, 3) := by decide +kernel
theorem d_M_game_45 : decode b_M_game 45 = .ok (.aload_n 0, 1) := by decide +kernel
theorem d_M_game_46 : decode b_M_game 46 = .ok (.aload_n 0, 1) := by decide +kernel
theorem d_M_game_47 : decode b_M_game 47 = .ok (.getfield 163, 3) := by decide +kernel
theorem d_M_game_50 : decode b_M_game 50 = .ok (.putfield 175, 3) := by decide +kernel
theorem d_M_game_53 : decode b_M_game 53 = .ok (.iconst 0, 1) := by decide +kernel
theorem d_M_game_54 : decode b_M_game 54 = .ok (.istore_n 2, 1) := by decide +kernel
theorem d_M_game_55 : decode b_M_game 55 = .ok (.iload_n 2, 1) := by decide +kernel
theorem d_M_game_56 : decode b_M_game 56 = .ok (.aload_n 0, 1) := by decide +kernel
theorem d_M_game_57 : decode b_M_game 57 = .ok (.getfield 175, 3) := by decide +kernel
theorem d_M_game_60 : decode b_M_game 60 = .ok (.if_icmp .ge 21, 3) := by decide +kernel
theorem d_M_game_63 : decode b_M_game 63 = .ok (.aload_n 0, 1) := by decide +kernel
theorem d_M_game_64 : decode b_M_game 64 = .ok (.getfield 32, 3) := by decide +kernel
theorem d_M_game_67 : decode b_M_game 67 = .ok (.iload_n 2, 1) := by decide +kernel
theorem d_M_game_68 : decode b_M_game 68 = .ok (.aload_n 0, 1) := by decide +kernel
theorem d_M_game_69 : decode b_M_game 69 = .ok (.getfield 38, 3) := by decide +kernel
theorem d_M_game_72 : decode b_M_game 72 = .ok (.iload_n 2, 1) := by decide +kernel
theorem d_M_game_73 : decode b_M_game 73 = .ok (.iaload, 1) := by decide +kernel
theorem d_M_game_74 : decode b_M_game 74 = .ok (.iastore, 1) := by decide +kernel
theorem d_M_game_75 : decode b_M_game 75 = .ok (.iinc 2 1, 3) := by decide +kernel
theorem d_M_game_78 : decode b_M_game 78 = .ok (.goto (-23), 3) := by decide +kernel
theorem d_M_game_81 : decode b_M_game 81 = .ok (.aload_n 0, 1) := by decide +kernel
theorem d_M_game_82 : decode b_M_game 82 = .ok (.aload_n 0, 1) := by decide +kernel
theorem d_M_game_83 : decode b_M_game 83 = .ok (.getfield 151, 3) := by decide +kernel
theorem d_M_game_86 : decode b_M_game 86 = .ok (.putfield 178, 3) := by decide +kernel
theorem d_M_game_89 : decode b_M_game 89 = .ok (.iconst 0, 1) := by decide +kernel
theorem d_M_game_90 : decode b_M_game 90 = .ok (.istore_n 2, 1) := by decide +kernel
theorem d_M_game_91 : decode b_M_game 91 = .ok (.iload_n 2, 1) := by decide +kernel
theorem d_M_game_92 : decode b_M_game 92 = .ok (.aload_n 0, 1) := by decide +kernel
theorem d_M_game_93 : decode b_M_game 93 = .ok (.getfield 178, 3) := by decide +kernel
theorem d_M_game_96 : decode b_M_game 96 = .ok (.if_icmp .ge 21, 3) := by decide +kernel
theorem d_M_game_99 : decode b_M_game 99 = .ok (.aload_n 0, 1) := by decide +kernel
theorem d_M_game_100 : decode b_M_game 100 = .ok (.getfield 35, 3) := by decide +kernel
theorem d_M_game_103 : decode b_M_game 103 = .ok (.iload_n 2, 1) := by decide +kernel
theorem d_M_game_104 : decode b_M_game 104 = .ok (.aload_n 0, 1) := by decide +kernel
theorem d_M_game_105 : decode b_M_game 105 = .ok (.getfield 41, 3) := by decide +kernel
theorem d_M_game_108 : decode b_M_game 108 = .ok (.iload_n 2, 1) := by decide +kernel
theorem d_M_game_109 : decode b_M_game 109 = .ok (.iaload, 1) := by decide +kernel
theorem d_M_game_110 : decode b_M_game 110 = .ok (.iastore, 1) := by decide +kernel
theorem d_M_game_111 : decode b_M_game 111 = .ok (.iinc 2 1, 3) := by decide +kernel
theorem d_M_game_114 : decode b_M_game 114 = .ok (.goto (-23), 3) := by decide +kernel
theorem d_M_game_117 : decode b_M_game 117 = .ok (.iconst 0, 1) := by decide +kernel
theorem d_M_game_118 : decode b_M_game 118 = .ok (.istore_n 2, 1) := by decide +kernel
theorem d_M_game_119 : decode b_M_game 119 = .ok (.iload_n 2, 1) := by decide +kernel
theorem d_M_game_120 : decode b_M_game 120 = .ok (.iconst 3, 1) := by decide +kernel
theorem d_M_game_121 : decode b_M_game 121 = .ok (.if_icmp .ge 16, 3) := by decide +kernel
theorem d_M_game_124 : decode b_M_game 124 = .ok (.aload_n 0, 1) := by decide +kernel
theorem d_M_game_125 : decode b_M_game 125 = .ok (.getfield 44, 3) := by decide +kernel
theorem d_M_game_128 : decode b_M_game 128 = .ok (.iload_n 2, 1) := by decide +kernel
theorem d_M_game_129 : decode b_M_game 129 = .ok (.iconst (-1), 1) := by decide +kernel
theorem d_M_game_130 : decode b_M_game 130 = .ok (.iastore, 1) := by decide +kernel
theorem d_M_game_131 : decode b_M_game 131 = .ok (.iinc 2 1, 3) := by decide +kernel
theorem d_M_game_134 : decode b_M_game 134 = .ok (.goto (-15), 3) := by decide +kernel
theorem d_M_game_137 : decode b_M_game 137 = .ok (.aload_n 0, 1) := by decide +kernel
theorem d_M_game_138 : decode b_M_game 138 = .ok (.getfield 178, 3) := by decide +kernel
theorem d_M_game_141 : decode b_M_game 141 = .ok (.ireturn, 1) := by decide +kernel
theorem d_M_law_0 : decode b_M_law 0 = .ok (.aload_n 0, 1) := by decide +kernel
theorem d_M_law_1 : decode b_M_law 1 = .ok (.getfield 172, 3) := by decide +kernel
theorem d_M_law_4 : decode b_M_law 4 = .ok (.ireturn, 1) := by decide +kernel
theorem d_M_player_0 : decode b_M_player 0 = .ok (.aload_n 0, 1) := by decide +kernel
theorem d_M_player_1 : decode b_M_player 1 = .ok (.iload_n 1, 1) := by decide +kernel
theorem d_M_player_2 : decode b_M_player 2 = .ok (.invokevirtual 181, 3) := by decide +kernel
theorem d_M_player_5 : decode b_M_player 5 = .ok (.ifCond .eq 12, 3) := by decide +kernel
theorem d_M_player_8 : decode b_M_player 8 = .ok (.aload_n 0, 1) := by decide +kernel
theorem d_M_player_9 : decode b_M_player 9 = .ok (.getfield 32, 3) := by decide +kernel
theorem d_M_player_12 : decode b_M_player 12 = .ok (.iload_n 1, 1) := by decide +kernel
theorem d_M_player_13 : decode b_M_player 13 = .ok (.iaload, 1) := by decide +kernel
theorem d_M_player_14 : decode b_M_player 14 = .ok (.goto 4, 3) := by decide +kernel
theorem d_M_player_17 : decode b_M_player 17 = .ok (.iconst (-1), 1) := by decide +kernel
theorem d_M_player_18 : decode b_M_player 18 = .ok (.ireturn, 1) := by decide +kernel
theorem d_M_isPlayer_0 : decode b_M_isPlayer 0 = .ok (.iload_n 1, 1) := by decide +kernel
theorem d_M_isPlayer_1 : decode b_M_isPlayer 1 = .ok (.iconst 0, 1) := by decide +kernel
theorem d_M_isPlayer_2 : decode b_M_isPlayer 2 = .ok (.aload_n 0, 1) := by decide +kernel
theorem d_M_isPlayer_3 : decode b_M_isPlayer 3 = .ok (.getfield 175, 3) := by decide +kernel
theorem d_M_isPlayer_6 : decode b_M_isPlayer 6 = .ok (.iconst 1, 1) := by decide +kernel
theorem d_M_isPlayer_7 : decode b_M_isPlayer 7 = .ok (.isub, 1) := by decide +kernel
theorem d_M_isPlayer_8 : decode b_M_isPlayer 8 = .ok (.invokestatic 96, 3) := by decide +kernel
theorem d_M_isPlayer_11 : decode b_M_isPlayer 11 = .ok (.ireturn, 1) := by decide +kernel
theorem d_M_say_0 : decode b_M_say 0 = .ok (.iload_n 1, 1) := by decide +kernel
theorem d_M_say_1 : decode b_M_say 1 = .ok (.iconst 1, 1) := by decide +kernel
theorem d_M_say_2 : decode b_M_say 2 = .ok (.bipush 60, 2) := by decide +kernel
theorem d_M_say_4 : decode b_M_say 4 = .ok (.invokestatic 96, 3) := by decide +kernel
theorem d_M_say_7 : decode b_M_say 7 = .ok (.ifCond .ne 5, 3) := by decide +kernel
theorem d_M_say_10 : decode b_M_say 10 = .ok (.iconst (-1), 1) := by decide +kernel
theorem d_M_say_11 : decode b_M_say 11 = .ok (.ireturn, 1) := by decide +kernel
theorem d_M_say_12 : decode b_M_say 12 = .ok (.aload_n 0, 1) := by decide +kernel
theorem d_M_say_13 : decode b_M_say 13 = .ok (.invokevirtual 196, 3) := by decide +kernel
theorem d_M_say_16 : decode b_M_say 16 = .ok (.ifCond .ne 11, 3) := by decide +kernel
theorem d_M_say_19 : decode b_M_say 19 = .ok (.aload_n 0, 1) := by decide +kernel
theorem d_M_say_20 : decode b_M_say 20 = .ok (.iload_n 1, 1) := by decide +kernel
theorem d_M_say_21 : decode b_M_say 21 = .ok (.invokevirtual 199, 3) := by decide +kernel
theorem d_M_say_24 : decode b_M_say 24 = .ok (.ifCond .ne 6, 3) := by decide +kernel
theorem d_M_say_27 : decode b_M_say 27 = .ok (.bipush (-4), 2) := by decide +kernel
theorem d_M_say_29 : decode b_M_say 29 = .ok (.ireturn, 1) := by decide +kernel
theorem d_M_say_30 : decode b_M_say 30 = .ok (.aload_n 0, 1) := by decide +kernel
theorem d_M_say_31 : decode b_M_say 31 = .ok (.getfield 178, 3) := by decide +kernel
theorem d_M_say_34 : decode b_M_say 34 = .ok (.bipush 12, 2) := by decide +kernel
theorem d_M_say_36 : decode b_M_say 36 = .ok (.if_icmp .lt 11, 3) := by decide +kernel
theorem d_M_say_39 : decode b_M_say 39 = .ok (.iload_n 1, 1) := by decide +kernel
theorem d_M_say_40 : decode b_M_say 40 = .ok (.iconst 1, 1) := by decide +kernel
theorem d_M_say_41 : decode b_M_say 41 = .ok (.if_icmp .eq 6, 3) := by decide +kernel
theorem d_M_say_44 : decode b_M_say 44 = .ok (.bipush (-2), 2) := by decide +kernel
theorem d_M_say_46 : decode b_M_say 46 = .ok (.ireturn, 1) := by decide +kernel
theorem d_M_say_47 : decode b_M_say 47 = .ok (.aload_n 0, 1) := by decide +kernel
theorem d_M_say_48 : decode b_M_say 48 = .ok (.getfield 35, 3) := by decide +kernel
theorem d_M_say_51 : decode b_M_say 51 = .ok (.aload_n 0, 1) := by decide +kernel
theorem d_M_say_52 : decode b_M_say 52 = .ok (.getfield 178, 3) := by decide +kernel
theorem d_M_say_55 : decode b_M_say 55 = .ok (.iload_n 1, 1) := by decide +kernel
theorem d_M_say_56 : decode b_M_say 56 = .ok (.iastore, 1) := by decide +kernel
theorem d_M_say_57 : decode b_M_say 57 = .ok (.aload_n 0, 1) := by decide +kernel
theorem d_M_say_58 : decode b_M_say 58 = .ok (.dup, 1) := by decide +kernel
theorem d_M_say_59 : decode b_M_say 59 = .ok (.getfield 178, 3) := by decide +kernel
theorem d_M_say_62 : decode b_M_say 62 = .ok (.iconst 1, 1) := by decide +kernel
theorem d_M_say_63 : decode b_M_say 63 = .ok (.iadd, 1) := by decide +kernel
theorem d_M_say_64 : decode b_M_say 64 = .ok (.putfield 178, 3) := by decide +kernel
theorem d_M_say_67 : decode b_M_say 67 = .ok (.aload_n 0, 1) := by decide +kernel
theorem d_M_say_68 : decode b_M_say 68 = .ok (.invokevirtual 192, 3) := by decide +kernel
theorem d_M_say_71 : decode b_M_say 71 = .ok (.ireturn, 1) := by decide +kernel
theorem d_M_isOver_0 : decode b_M_isOver 0 = .ok (.aload_n 0, 1) := by decide +kernel
theorem d_M_isOver_1 : decode b_M_isOver 1 = .ok (.invokevirtual 188, 3) := by decide +kernel
theorem d_M_isOver_4 : decode b_M_isOver 4 = .ok (.ifCond .ne 10, 3) := by decide +kernel
theorem d_M_isOver_7 : decode b_M_isOver 7 = .ok (.aload_n 0, 1) := by decide +kernel
theorem d_M_isOver_8 : decode b_M_isOver 8 = .ok (.invokevirtual 192, 3) := by decide +kernel
theorem d_M_isOver_11 : decode b_M_isOver 11 = .ok (.ifCond .ne 7, 3) := by decide +kernel
theorem d_M_isOver_14 : decode b_M_isOver 14 = .ok (.iconst 1, 1) := by decide +kernel
theorem d_M_isOver_15 : decode b_M_isOver 15 = .ok (.goto 4, 3) := by decide +kernel
theorem d_M_isOver_18 : decode b_M_isOver 18 = .ok (.iconst 0, 1) := by decide +kernel
theorem d_M_isOver_19 : decode b_M_isOver 19 = .ok (.ireturn, 1) := by decide +kernel
theorem d_M_saidOne_0 : decode b_M_saidOne 0 = .ok (.aload_n 0, 1) := by decide +kernel
theorem d_M_saidOne_1 : decode b_M_saidOne 1 = .ok (.getfield 178, 3) := by decide +kernel
theorem d_M_saidOne_4 : decode b_M_saidOne 4 = .ok (.ifCond .le 22, 3) := by decide +kernel
theorem d_M_saidOne_7 : decode b_M_saidOne 7 = .ok (.aload_n 0, 1) := by decide +kernel
theorem d_M_saidOne_8 : decode b_M_saidOne 8 = .ok (.getfield 35, 3) := by decide +kernel
theorem d_M_saidOne_11 : decode b_M_saidOne 11 = .ok (.aload_n 0, 1) := by decide +kernel
theorem d_M_saidOne_12 : decode b_M_saidOne 12 = .ok (.getfield 178, 3) := by decide +kernel
theorem d_M_saidOne_15 : decode b_M_saidOne 15 = .ok (.iconst 1, 1) := by decide +kernel
theorem d_M_saidOne_16 : decode b_M_saidOne 16 = .ok (.isub, 1) := by decide +kernel
theorem d_M_saidOne_17 : decode b_M_saidOne 17 = .ok (.iaload, 1) := by decide +kernel
theorem d_M_saidOne_18 : decode b_M_saidOne 18 = .ok (.iconst 1, 1) := by decide +kernel
theorem d_M_saidOne_19 : decode b_M_saidOne 19 = .ok (.if_icmp .ne 7, 3) := by decide +kernel
theorem d_M_saidOne_22 : decode b_M_saidOne 22 = .ok (.iconst 1, 1) := by decide +kernel
theorem d_M_saidOne_23 : decode b_M_saidOne 23 = .ok (.goto 4, 3) := by decide +kernel
theorem d_M_saidOne_26 : decode b_M_saidOne 26 = .ok (.iconst 0, 1) := by decide +kernel
theorem d_M_saidOne_27 : decode b_M_saidOne 27 = .ok (.ireturn, 1) := by decide +kernel
theorem d_M_leftNow_0 : decode b_M_leftNow 0 = .ok (.aload_n 0, 1) := by decide +kernel
theorem d_M_leftNow_1 : decode b_M_leftNow 1 = .ok (.aload_n 0, 1) := by decide +kernel
theorem d_M_leftNow_2 : decode b_M_leftNow 2 = .ok (.getfield 35, 3) := by decide +kernel
theorem d_M_leftNow_5 : decode b_M_leftNow 5 = .ok (.aload_n 0, 1) := by decide +kernel
theorem d_M_leftNow_6 : decode b_M_leftNow 6 = .ok (.getfield 178, 3) := by decide +kernel
theorem d_M_leftNow_9 : decode b_M_leftNow 9 = .ok (.aload_n 0, 1) := by decide +kernel
theorem d_M_leftNow_10 : decode b_M_leftNow 10 = .ok (.getfield 172, 3) := by decide +kernel
theorem d_M_leftNow_13 : decode b_M_leftNow 13 = .ok (.invokevirtual 184, 3) := by decide +kernel
theorem d_M_leftNow_16 : decode b_M_leftNow 16 = .ok (.ireturn, 1) := by decide +kernel
theorem d_M_leftOf_0 : decode b_M_leftOf 0 = .ok (.aload_n 0, 1) := by decide +kernel
theorem d_M_leftOf_1 : decode b_M_leftOf 1 = .ok (.aload_n 1, 1) := by decide +kernel
theorem d_M_leftOf_2 : decode b_M_leftOf 2 = .ok (.iload_n 2, 1) := by decide +kernel
theorem d_M_leftOf_3 : decode b_M_leftOf 3 = .ok (.iload_n 3, 1) := by decide +kernel
theorem d_M_leftOf_4 : decode b_M_leftOf 4 = .ok (.bipush 60, 2) := by decide +kernel
theorem d_M_leftOf_6 : decode b_M_leftOf 6 = .ok (.invokevirtual 131, 3) := by decide +kernel
theorem d_M_leftOf_9 : decode b_M_leftOf 9 = .ok (.iconst 0, 1) := by decide +kernel
theorem d_M_leftOf_10 : decode b_M_leftOf 10 = .ok (.istore 4, 2) := by decide +kernel
theorem d_M_leftOf_12 : decode b_M_leftOf 12 = .ok (.iconst 1, 1) := by decide +kernel
theorem d_M_leftOf_13 : decode b_M_leftOf 13 = .ok (.istore 5, 2) := by decide +kernel
theorem d_M_leftOf_15 : decode b_M_leftOf 15 = .ok (.iload 5, 2) := by decide +kernel
theorem d_M_leftOf_17 : decode b_M_leftOf 17 = .ok (.bipush 60, 2) := by decide +kernel
theorem d_M_leftOf_19 : decode b_M_leftOf 19 = .ok (.if_icmp .gt 28, 3) := by decide +kernel
theorem d_M_leftOf_22 : decode b_M_leftOf 22 = .ok (.iload 4, 2) := by decide +kernel
theorem d_M_leftOf_24 : decode b_M_leftOf 24 = .ok (.aload_n 0, 1) := by decide +kernel
theorem d_M_leftOf_25 : decode b_M_leftOf 25 = .ok (.iload 5, 2) := by decide +kernel
theorem d_M_leftOf_27 : decode b_M_leftOf 27 = .ok (.invokevirtual 135, 3) := by decide +kernel
theorem d_M_leftOf_30 : decode b_M_leftOf 30 = .ok (.ifCond .eq 7, 3) := by decide +kernel
theorem d_M_leftOf_33 : decode b_M_leftOf 33 = .ok (.iconst 0, 1) := by decide +kernel
theorem d_M_leftOf_34 : decode b_M_leftOf 34 = .ok (.goto 4, 3) := by decide +kernel
theorem d_M_leftOf_37 : decode b_M_leftOf 37 = .ok (.iconst 1, 1) := by decide +kernel
theorem d_M_leftOf_38 : decode b_M_leftOf 38 = .ok (.iadd, 1) := by decide +kernel
theorem d_M_leftOf_39 : decode b_M_leftOf 39 = .ok (.istore 4, 2) := by decide +kernel
theorem d_M_leftOf_41 : decode b_M_leftOf 41 = .ok (.iinc 5 1, 3) := by decide +kernel
theorem d_M_leftOf_44 : decode b_M_leftOf 44 = .ok (.goto (-29), 3) := by decide +kernel
theorem d_M_leftOf_47 : decode b_M_leftOf 47 = .ok (.iload 4, 2) := by decide +kernel
theorem d_M_leftOf_49 : decode b_M_leftOf 49 = .ok (.ireturn, 1) := by decide +kernel
theorem d_M_maySay_0 : decode b_M_maySay 0 = .ok (.aload_n 0, 1) := by decide +kernel
theorem d_M_maySay_1 : decode b_M_maySay 1 = .ok (.aload_n 0, 1) := by decide +kernel
theorem d_M_maySay_2 : decode b_M_maySay 2 = .ok (.getfield 35, 3) := by decide +kernel
theorem d_M_maySay_5 : decode b_M_maySay 5 = .ok (.aload_n 0, 1) := by decide +kernel
theorem d_M_maySay_6 : decode b_M_maySay 6 = .ok (.getfield 178, 3) := by decide +kernel
theorem d_M_maySay_9 : decode b_M_maySay 9 = .ok (.aload_n 0, 1) := by decide +kernel
theorem d_M_maySay_10 : decode b_M_maySay 10 = .ok (.getfield 172, 3) := by decide +kernel
theorem d_M_maySay_13 : decode b_M_maySay 13 = .ok (.bipush 60, 2) := by decide +kernel
theorem d_M_maySay_15 : decode b_M_maySay 15 = .ok (.invokevirtual 131, 3) := by decide +kernel
theorem d_M_maySay_18 : decode b_M_maySay 18 = .ok (.aload_n 0, 1) := by decide +kernel
theorem d_M_maySay_19 : decode b_M_maySay 19 = .ok (.iload_n 1, 1) := by decide +kernel
theorem d_M_maySay_20 : decode b_M_maySay 20 = .ok (.invokevirtual 135, 3) := by decide +kernel
theorem d_M_maySay_23 : decode b_M_maySay 23 = .ok (.ifCond .ne 7, 3) := by decide +kernel
theorem d_M_maySay_26 : decode b_M_maySay 26 = .ok (.iconst 1, 1) := by decide +kernel
theorem d_M_maySay_27 : decode b_M_maySay 27 = .ok (.goto 4, 3) := by decide +kernel
theorem d_M_maySay_30 : decode b_M_maySay 30 = .ok (.iconst 0, 1) := by decide +kernel
theorem d_M_maySay_31 : decode b_M_maySay 31 = .ok (.ireturn, 1) := by decide +kernel
theorem d_M_may_0 : decode b_M_may 0 = .ok (.iload_n 1, 1) := by decide +kernel
theorem d_M_may_1 : decode b_M_may 1 = .ok (.iconst 1, 1) := by decide +kernel
theorem d_M_may_2 : decode b_M_may 2 = .ok (.bipush 60, 2) := by decide +kernel
theorem d_M_may_4 : decode b_M_may 4 = .ok (.invokestatic 96, 3) := by decide +kernel
theorem d_M_may_7 : decode b_M_may 7 = .ok (.ifCond .eq 19, 3) := by decide +kernel
theorem d_M_may_10 : decode b_M_may 10 = .ok (.aload_n 0, 1) := by decide +kernel
theorem d_M_may_11 : decode b_M_may 11 = .ok (.iload_n 1, 1) := by decide +kernel
theorem d_M_may_12 : decode b_M_may 12 = .ok (.invokevirtual 199, 3) := by decide +kernel
theorem d_M_may_15 : decode b_M_may 15 = .ok (.ifCond .eq 7, 3) := by decide +kernel
theorem d_M_may_18 : decode b_M_may 18 = .ok (.iconst 1, 1) := by decide +kernel
theorem d_M_may_19 : decode b_M_may 19 = .ok (.goto 8, 3) := by decide +kernel
theorem d_M_may_22 : decode b_M_may 22 = .ok (.iconst 0, 1) := by decide +kernel
theorem d_M_may_23 : decode b_M_may 23 = .ok (.goto 4, 3) := by decide +kernel
theorem d_M_may_26 : decode b_M_may 26 = .ok (.iconst (-1), 1) := by decide +kernel
theorem d_M_may_27 : decode b_M_may 27 = .ok (.ireturn, 1) := by decide +kernel
theorem d_M_said_0 : decode b_M_said 0 = .ok (.iload_n 1, 1) := by decide +kernel
theorem d_M_said_1 : decode b_M_said 1 = .ok (.ifCond .ge 7, 3) := by decide +kernel
theorem d_M_said_4 : decode b_M_said 4 = .ok (.iconst (-1), 1) := by decide +kernel
theorem d_M_said_5 : decode b_M_said 5 = .ok (.goto 25, 3) := by decide +kernel
theorem d_M_said_8 : decode b_M_said 8 = .ok (.iload_n 1, 1) := by decide +kernel
theorem d_M_said_9 : decode b_M_said 9 = .ok (.aload_n 0, 1) := by decide +kernel
theorem d_M_said_10 : decode b_M_said 10 = .ok (.getfield 178, 3) := by decide +kernel
theorem d_M_said_13 : decode b_M_said 13 = .ok (.if_icmp .ge 12, 3) := by decide +kernel
theorem d_M_said_16 : decode b_M_said 16 = .ok (.aload_n 0, 1) := by decide +kernel
theorem d_M_said_17 : decode b_M_said 17 = .ok (.getfield 35, 3) := by decide +kernel
theorem d_M_said_20 : decode b_M_said 20 = .ok (.iload_n 1, 1) := by decide +kernel
theorem d_M_said_21 : decode b_M_said 21 = .ok (.iaload, 1) := by decide +kernel
theorem d_M_said_22 : decode b_M_said 22 = .ok (.goto 8, 3) := by decide +kernel
theorem d_M_said_25 : decode b_M_said 25 = .ok (.aload_n 0, 1) := by decide +kernel
theorem d_M_said_26 : decode b_M_said 26 = .ok (.iconst 2, 1) := by decide +kernel
theorem d_M_said_27 : decode b_M_said 27 = .ok (.invokevirtual 114, 3) := by decide +kernel
theorem d_M_said_30 : decode b_M_said 30 = .ok (.ireturn, 1) := by decide +kernel
theorem d_M_undo_0 : decode b_M_undo 0 = .ok (.iload_n 1, 1) := by decide +kernel
theorem d_M_undo_1 : decode b_M_undo 1 = .ok (.iconst 0, 1) := by decide +kernel
theorem d_M_undo_2 : decode b_M_undo 2 = .ok (.aload_n 0, 1) := by decide +kernel
theorem d_M_undo_3 : decode b_M_undo 3 = .ok (.getfield 178, 3) := by decide +kernel
theorem d_M_undo_6 : decode b_M_undo 6 = .ok (.invokestatic 96, 3) := by decide +kernel
theorem d_M_undo_9 : decode b_M_undo 9 = .ok (.ifCond .ne 5, 3) := by decide +kernel
theorem d_M_undo_12 : decode b_M_undo 12 = .ok (.iconst (-1), 1) := by decide +kernel
theorem d_M_undo_13 : decode b_M_undo 13 = .ok (.ireturn, 1) := by decide +kernel
theorem d_M_undo_14 : decode b_M_undo 14 = .ok (.aload_n 0, 1) := by decide +kernel
theorem d_M_undo_15 : decode b_M_undo 15 = .ok (.getfield 178, 3) := by decide +kernel
theorem d_M_undo_18 : decode b_M_undo 18 = .ok (.iload_n 1, 1) := by decide +kernel
theorem d_M_undo_19 : decode b_M_undo 19 = .ok (.isub, 1) := by decide +kernel
theorem d_M_undo_20 : decode b_M_undo 20 = .ok (.istore_n 2, 1) := by decide +kernel
theorem d_M_undo_21 : decode b_M_undo 21 = .ok (.aload_n 0, 1) := by decide +kernel
theorem d_M_undo_22 : decode b_M_undo 22 = .ok (.iload_n 1, 1) := by decide +kernel
theorem d_M_undo_23 : decode b_M_undo 23 = .ok (.putfield 178, 3) := by decide +kernel
theorem d_M_undo_26 : decode b_M_undo 26 = .ok (.iload_n 2, 1) := by decide +kernel
theorem d_M_undo_27 : decode b_M_undo 27 = .ok (.ireturn, 1) := by decide +kernel
theorem d_M_turn_0 : decode b_M_turn 0 = .ok (.aload_n 0, 1) := by decide +kernel
theorem d_M_turn_1 : decode b_M_turn 1 = .ok (.invokevirtual 188, 3) := by decide +kernel
theorem d_M_turn_4 : decode b_M_turn 4 = .ok (.ifCond .eq 14, 3) := by decide +kernel
theorem d_M_turn_7 : decode b_M_turn 7 = .ok (.aload_n 0, 1) := by decide +kernel
theorem d_M_turn_8 : decode b_M_turn 8 = .ok (.getfield 178, 3) := by decide +kernel
theorem d_M_turn_11 : decode b_M_turn 11 = .ok (.iconst 1, 1) := by decide +kernel
theorem d_M_turn_12 : decode b_M_turn 12 = .ok (.isub, 1) := by decide +kernel
theorem d_M_turn_13 : decode b_M_turn 13 = .ok (.iconst 2, 1) := by decide +kernel
theorem d_M_turn_14 : decode b_M_turn 14 = .ok (.irem, 1) := by decide +kernel
theorem d_M_turn_15 : decode b_M_turn 15 = .ok (.goto 21, 3) := by decide +kernel
theorem d_M_turn_18 : decode b_M_turn 18 = .ok (.aload_n 0, 1) := by decide +kernel
theorem d_M_turn_19 : decode b_M_turn 19 = .ok (.invokevirtual 196, 3) := by decide +kernel
theorem d_M_turn_22 : decode b_M_turn 22 = .ok (.ifCond .eq 12, 3) := by decide +kernel
theorem d_M_turn_25 : decode b_M_turn 25 = .ok (.aload_n 0, 1) := by decide +kernel
theorem d_M_turn_26 : decode b_M_turn 26 = .ok (.getfield 178, 3) := by decide +kernel
theorem d_M_turn_29 : decode b_M_turn 29 = .ok (.iconst 2, 1) := by decide +kernel
theorem d_M_turn_30 : decode b_M_turn 30 = .ok (.irem, 1) := by decide +kernel
theorem d_M_turn_31 : decode b_M_turn 31 = .ok (.goto 5, 3) := by decide +kernel
theorem d_M_turn_34 : decode b_M_turn 34 = .ok (.bipush (-9), 2) := by decide +kernel
theorem d_M_turn_36 : decode b_M_turn 36 = .ok (.istore_n 1, 1) := by decide +kernel
theorem d_M_turn_37 : decode b_M_turn 37 = .ok (.aload_n 0, 1) := by decide +kernel
theorem d_M_turn_38 : decode b_M_turn 38 = .ok (.iload_n 1, 1) := by decide +kernel
theorem d_M_turn_39 : decode b_M_turn 39 = .ok (.aload_n 0, 1) := by decide +kernel
theorem d_M_turn_40 : decode b_M_turn 40 = .ok (.getfield 178, 3) := by decide +kernel
theorem d_M_turn_43 : decode b_M_turn 43 = .ok (.iconst 2, 1) := by decide +kernel
theorem d_M_turn_44 : decode b_M_turn 44 = .ok (.irem, 1) := by decide +kernel
theorem d_M_turn_45 : decode b_M_turn 45 = .ok (.invokevirtual 121, 3) := by decide +kernel
theorem d_M_turn_48 : decode b_M_turn 48 = .ok (.ireturn, 1) := by decide +kernel
theorem d_M_keep_0 : decode b_M_keep 0 = .ok (.iload_n 1, 1) := by decide +kernel
theorem d_M_keep_1 : decode b_M_keep 1 = .ok (.iconst 0, 1) := by decide +kernel
theorem d_M_keep_2 : decode b_M_keep 2 = .ok (.iconst 2, 1) := by decide +kernel
theorem d_M_keep_3 : decode b_M_keep 3 = .ok (.invokestatic 96, 3) := by decide +kernel
theorem d_M_keep_6 : decode b_M_keep 6 = .ok (.ifCond .ne 5, 3) := by decide +kernel
theorem d_M_keep_9 : decode b_M_keep 9 = .ok (.iconst (-1), 1) := by decide +kernel
theorem d_M_keep_10 : decode b_M_keep 10 = .ok (.ireturn, 1) := by decide +kernel
theorem d_M_keep_11 : decode b_M_keep 11 = .ok (.aload_n 0, 1) := by decide +kernel
theorem d_M_keep_12 : decode b_M_keep 12 = .ok (.getfield 44, 3) := by decide +kernel
theorem d_M_keep_15 : decode b_M_keep 15 = .ok (.iload_n 1, 1) := by decide +kernel
theorem d_M_keep_16 : decode b_M_keep 16 = .ok (.aload_n 0, 1) := by decide +kernel
theorem d_M_keep_17 : decode b_M_keep 17 = .ok (.getfield 178, 3) := by decide +kernel
theorem d_M_keep_20 : decode b_M_keep 20 = .ok (.iastore, 1) := by decide +kernel
theorem d_M_keep_21 : decode b_M_keep 21 = .ok (.aload_n 0, 1) := by decide +kernel
theorem d_M_keep_22 : decode b_M_keep 22 = .ok (.getfield 47, 3) := by decide +kernel
theorem d_M_keep_25 : decode b_M_keep 25 = .ok (.iload_n 1, 1) := by decide +kernel
theorem d_M_keep_26 : decode b_M_keep 26 = .ok (.aload_n 0, 1) := by decide +kernel
theorem d_M_keep_27 : decode b_M_keep 27 = .ok (.getfield 172, 3) := by decide +kernel
theorem d_M_keep_30 : decode b_M_keep 30 = .ok (.iastore, 1) := by decide +kernel
theorem d_M_keep_31 : decode b_M_keep 31 = .ok (.iconst 0, 1) := by decide +kernel
theorem d_M_keep_32 : decode b_M_keep 32 = .ok (.istore_n 2, 1) := by decide +kernel
theorem d_M_keep_33 : decode b_M_keep 33 = .ok (.iload_n 2, 1) := by decide +kernel
theorem d_M_keep_34 : decode b_M_keep 34 = .ok (.aload_n 0, 1) := by decide +kernel
theorem d_M_keep_35 : decode b_M_keep 35 = .ok (.getfield 178, 3) := by decide +kernel
theorem d_M_keep_38 : decode b_M_keep 38 = .ok (.if_icmp .ge 26, 3) := by decide +kernel
theorem d_M_keep_41 : decode b_M_keep 41 = .ok (.aload_n 0, 1) := by decide +kernel
theorem d_M_keep_42 : decode b_M_keep 42 = .ok (.getfield 50, 3) := by decide +kernel
theorem d_M_keep_45 : decode b_M_keep 45 = .ok (.bipush 14, 2) := by decide +kernel
theorem d_M_keep_47 : decode b_M_keep 47 = .ok (.iload_n 1, 1) := by decide +kernel
theorem d_M_keep_48 : decode b_M_keep 48 = .ok (.imul, 1) := by decide +kernel
theorem d_M_keep_49 : decode b_M_keep 49 = .ok (.iload_n 2, 1) := by decide +kernel
theorem d_M_keep_50 : decode b_M_keep 50 = .ok (.iadd, 1) := by decide +kernel
theorem d_M_keep_51 : decode b_M_keep 51 = .ok (.aload_n 0, 1) := by decide +kernel
theorem d_M_keep_52 : decode b_M_keep 52 = .ok (.getfield 35, 3) := by decide +kernel
theorem d_M_keep_55 : decode b_M_keep 55 = .ok (.iload_n 2, 1) := by decide +kernel
theorem d_M_keep_56 : decode b_M_keep 56 = .ok (.iaload, 1) := by decide +kernel
theorem d_M_keep_57 : decode b_M_keep 57 = .ok (.iastore, 1) := by decide +kernel
theorem d_M_keep_58 : decode b_M_keep 58 = .ok (.iinc 2 1, 3) := by decide +kernel
theorem d_M_keep_61 : decode b_M_keep 61 = .ok (.goto (-28), 3) := by decide +kernel
theorem d_M_keep_64 : decode b_M_keep 64 = .ok (.aload_n 0, 1) := by decide +kernel
theorem d_M_keep_65 : decode b_M_keep 65 = .ok (.getfield 178, 3) := by decide +kernel
theorem d_M_keep_68 : decode b_M_keep 68 = .ok (.ireturn, 1) := by decide +kernel
theorem d_M_on_0 : decode b_M_on 0 = .ok (.iload_n 1, 1) := by decide +kernel
theorem d_M_on_1 : decode b_M_on 1 = .ok (.iconst 0, 1) := by decide +kernel
theorem d_M_on_2 : decode b_M_on 2 = .ok (.iconst 2, 1) := by decide +kernel
theorem d_M_on_3 : decode b_M_on 3 = .ok (.invokestatic 96, 3) := by decide +kernel
theorem d_M_on_6 : decode b_M_on 6 = .ok (.ifCond .ne 5, 3) := by decide +kernel
theorem d_M_on_9 : decode b_M_on 9 = .ok (.iconst (-1), 1) := by decide +kernel
theorem d_M_on_10 : decode b_M_on 10 = .ok (.ireturn, 1) := by decide +kernel
theorem d_M_on_11 : decode b_M_on 11 = .ok (.aload_n 0, 1) := by decide +kernel
theorem d_M_on_12 : decode b_M_on 12 = .ok (.getfield 44, 3) := by decide +kernel
theorem d_M_on_15 : decode b_M_on 15 = .ok (.iload_n 1, 1) := by decide +kernel
theorem d_M_on_16 : decode b_M_on 16 = .ok (.iaload, 1) := by decide +kernel
theorem d_M_on_17 : decode b_M_on 17 = .ok (.ifCond .ge 9, 3) := by decide +kernel
theorem d_M_on_20 : decode b_M_on 20 = .ok (.aload_n 0, 1) := by decide +kernel
theorem d_M_on_21 : decode b_M_on 21 = .ok (.iconst 1, 1) := by decide +kernel
theorem d_M_on_22 : decode b_M_on 22 = .ok (.invokevirtual 114, 3) := by decide +kernel
theorem d_M_on_25 : decode b_M_on 25 = .ok (.ireturn, 1) := by decide +kernel
theorem d_M_on_26 : decode b_M_on 26 = .ok (.aload_n 0, 1) := by decide +kernel
theorem d_M_on_27 : decode b_M_on 27 = .ok (.aload_n 0, 1) := by decide +kernel
theorem d_M_on_28 : decode b_M_on 28 = .ok (.getfield 44, 3) := by decide +kernel
theorem d_M_on_31 : decode b_M_on 31 = .ok (.iload_n 1, 1) := by decide +kernel
theorem d_M_on_32 : decode b_M_on 32 = .ok (.iaload, 1) := by decide +kernel
theorem d_M_on_33 : decode b_M_on 33 = .ok (.putfield 178, 3) := by decide +kernel
theorem d_M_on_36 : decode b_M_on 36 = .ok (.aload_n 0, 1) := by decide +kernel
theorem d_M_on_37 : decode b_M_on 37 = .ok (.aload_n 0, 1) := by decide +kernel
theorem d_M_on_38 : decode b_M_on 38 = .ok (.getfield 47, 3) := by decide +kernel
theorem d_M_on_41 : decode b_M_on 41 = .ok (.iload_n 1, 1) := by decide +kernel
theorem d_M_on_42 : decode b_M_on 42 = .ok (.iaload, 1) := by decide +kernel
theorem d_M_on_43 : decode b_M_on 43 = .ok (.putfield 172, 3) := by decide +kernel
theorem d_M_on_46 : decode b_M_on 46 = .ok (.iconst 0, 1) := by decide +kernel
theorem d_M_on_47 : decode b_M_on 47 = .ok (.istore_n 2, 1) := by decide +kernel
theorem d_M_on_48 : decode b_M_on 48 = .ok (.iload_n 2, 1) := by decide +kernel
theorem d_M_on_49 : decode b_M_on 49 = .ok (.aload_n 0, 1) := by decide +kernel
theorem d_M_on_50 : decode b_M_on 50 = .ok (.getfield 178, 3) := by decide +kernel
theorem d_M_on_53 : decode b_M_on 53 = .ok (.if_icmp .ge 26, 3) := by decide +kernel
theorem d_M_on_56 : decode b_M_on 56 = .ok (.aload_n 0, 1) := by decide +kernel
theorem d_M_on_57 : decode b_M_on 57 = .ok (.getfield 35, 3) := by decide +kernel
theorem d_M_on_60 : decode b_M_on 60 = .ok (.iload_n 2, 1) := by decide +kernel
theorem d_M_on_61 : decode b_M_on 61 = .ok (.aload_n 0, 1) := by decide +kernel
theorem d_M_on_62 : decode b_M_on 62 = .ok (.getfield 50, 3) := by decide +kernel
theorem d_M_on_65 : decode b_M_on 65 = .ok (.bipush 14, 2) := by decide +kernel
theorem d_M_on_67 : decode b_M_on 67 = .ok (.iload_n 1, 1) := by decide +kernel
theorem d_M_on_68 : decode b_M_on 68 = .ok (.imul, 1) := by decide +kernel
theorem d_M_on_69 : decode b_M_on 69 = .ok (.iload_n 2, 1) := by decide +kernel
theorem d_M_on_70 : decode b_M_on 70 = .ok (.iadd, 1) := by decide +kernel
theorem d_M_on_71 : decode b_M_on 71 = .ok (.iaload, 1) := by decide +kernel
theorem d_M_on_72 : decode b_M_on 72 = .ok (.iastore, 1) := by decide +kernel
theorem d_M_on_73 : decode b_M_on 73 = .ok (.iinc 2 1, 3) := by decide +kernel
theorem d_M_on_76 : decode b_M_on 76 = .ok (.goto (-28), 3) := by decide +kernel
theorem d_M_on_79 : decode b_M_on 79 = .ok (.aload_n 0, 1) := by decide +kernel
theorem d_M_on_80 : decode b_M_on 80 = .ok (.getfield 178, 3) := by decide +kernel
theorem d_M_on_83 : decode b_M_on 83 = .ok (.ireturn, 1) := by decide +kernel
theorem d_M_had_0 : decode b_M_had 0 = .ok (.iload_n 1, 1) := by decide +kernel
theorem d_M_had_1 : decode b_M_had 1 = .ok (.iconst 1, 1) := by decide +kernel
theorem d_M_had_2 : decode b_M_had 2 = .ok (.sipush 4000, 3) := by decide +kernel
theorem d_M_had_5 : decode b_M_had 5 = .ok (.invokestatic 96, 3) := by decide +kernel
theorem d_M_had_8 : decode b_M_had 8 = .ok (.ifCond .ne 5, 3) := by decide +kernel
theorem d_M_had_11 : decode b_M_had 11 = .ok (.iconst (-1), 1) := by decide +kernel
theorem d_M_had_12 : decode b_M_had 12 = .ok (.ireturn, 1) := by decide +kernel
theorem d_M_had_13 : decode b_M_had 13 = .ok (.aload_n 0, 1) := by decide +kernel
theorem d_M_had_14 : decode b_M_had 14 = .ok (.aload_n 0, 1) := by decide +kernel
theorem d_M_had_15 : decode b_M_had 15 = .ok (.getfield 35, 3) := by decide +kernel
theorem d_M_had_18 : decode b_M_had 18 = .ok (.aload_n 0, 1) := by decide +kernel
theorem d_M_had_19 : decode b_M_had 19 = .ok (.getfield 178, 3) := by decide +kernel
theorem d_M_had_22 : decode b_M_had 22 = .ok (.aload_n 0, 1) := by decide +kernel
theorem d_M_had_23 : decode b_M_had 23 = .ok (.getfield 172, 3) := by decide +kernel
theorem d_M_had_26 : decode b_M_had 26 = .ok (.iload_n 1, 1) := by decide +kernel
theorem d_M_had_27 : decode b_M_had 27 = .ok (.invokevirtual 131, 3) := by decide +kernel
theorem d_M_had_30 : decode b_M_had 30 = .ok (.aload_n 0, 1) := by decide +kernel
theorem d_M_had_31 : decode b_M_had 31 = .ok (.iload_n 1, 1) := by decide +kernel
theorem d_M_had_32 : decode b_M_had 32 = .ok (.invokevirtual 135, 3) := by decide +kernel
theorem d_M_had_35 : decode b_M_had 35 = .ok (.ifCond .eq 30, 3) := by decide +kernel
theorem d_M_had_38 : decode b_M_had 38 = .ok (.aload_n 0, 1) := by decide +kernel
theorem d_M_had_39 : decode b_M_had 39 = .ok (.aload_n 0, 1) := by decide +kernel
theorem d_M_had_40 : decode b_M_had 40 = .ok (.getfield 172, 3) := by decide +kernel
theorem d_M_had_43 : decode b_M_had 43 = .ok (.iconst 1, 1) := by decide +kernel
theorem d_M_had_44 : decode b_M_had 44 = .ok (.if_icmp .ne 8, 3) := by decide +kernel
theorem d_M_had_47 : decode b_M_had 47 = .ok (.bipush (-9), 2) := by decide +kernel
theorem d_M_had_49 : decode b_M_had 49 = .ok (.goto 9, 3) := by decide +kernel
theorem d_M_had_52 : decode b_M_had 52 = .ok (.aload_n 0, 1) := by decide +kernel
theorem d_M_had_53 : decode b_M_had 53 = .ok (.getfield 29, 3) := by decide +kernel
theorem d_M_had_56 : decode b_M_had 56 = .ok (.iload_n 1, 1) := by decide +kernel
theorem d_M_had_57 : decode b_M_had 57 = .ok (.iaload, 1) := by decide +kernel
theorem d_M_had_58 : decode b_M_had 58 = .ok (.iconst 1, 1) := by decide +kernel
theorem d_M_had_59 : decode b_M_had 59 = .ok (.invokevirtual 121, 3) := by decide +kernel
theorem d_M_had_62 : decode b_M_had 62 = .ok (.goto 10, 3) := by decide +kernel
theorem d_M_had_65 : decode b_M_had 65 = .ok (.aload_n 0, 1) := by decide +kernel
theorem d_M_had_66 : decode b_M_had 66 = .ok (.bipush (-9), 2) := by decide +kernel
theorem d_M_had_68 : decode b_M_had 68 = .ok (.iconst 0, 1) := by decide +kernel
theorem d_M_had_69 : decode b_M_had 69 = .ok (.invokevirtual 121, 3) := by decide +kernel
theorem d_M_had_72 : decode b_M_had 72 = .ok (.ireturn, 1) := by decide +kernel
theorem d_M_ways_0 : decode b_M_ways 0 = .ok (.iload_n 1, 1) := by decide +kernel
theorem d_M_ways_1 : decode b_M_ways 1 = .ok (.iconst 1, 1) := by decide +kernel
theorem d_M_ways_2 : decode b_M_ways 2 = .ok (.sipush 400, 3) := by decide +kernel
theorem d_M_ways_5 : decode b_M_ways 5 = .ok (.invokestatic 96, 3) := by decide +kernel
theorem d_M_ways_8 : decode b_M_ways 8 = .ok (.ifCond .ne 5, 3) := by decide +kernel
theorem d_M_ways_11 : decode b_M_ways 11 = .ok (.iconst (-1), 1) := by decide +kernel
theorem d_M_ways_12 : decode b_M_ways 12 = .ok (.ireturn, 1) := by decide +kernel
theorem d_M_ways_13 : decode b_M_ways 13 = .ok (.aload_n 0, 1) := by decide +kernel
theorem d_M_ways_14 : decode b_M_ways 14 = .ok (.getfield 172, 3) := by decide +kernel
theorem d_M_ways_17 : decode b_M_ways 17 = .ok (.ifCond .eq 6, 3) := by decide +kernel
theorem d_M_ways_20 : decode b_M_ways 20 = .ok (.bipush (-4), 2) := by decide +kernel
theorem d_M_ways_22 : decode b_M_ways 22 = .ok (.ireturn, 1) := by decide +kernel
theorem d_M_ways_23 : decode b_M_ways 23 = .ok (.iconst 1, 1) := by decide +kernel
theorem d_M_ways_24 : decode b_M_ways 24 = .ok (.istore_n 2, 1) := by decide +kernel
theorem d_M_ways_25 : decode b_M_ways 25 = .ok (.iload_n 2, 1) := by decide +kernel
theorem d_M_ways_26 : decode b_M_ways 26 = .ok (.iload_n 1, 1) := by decide +kernel
theorem d_M_ways_27 : decode b_M_ways 27 = .ok (.if_icmp .gt 16, 3) := by decide +kernel
theorem d_M_ways_30 : decode b_M_ways 30 = .ok (.aload_n 0, 1) := by decide +kernel
theorem d_M_ways_31 : decode b_M_ways 31 = .ok (.getfield 53, 3) := by decide +kernel
theorem d_M_ways_34 : decode b_M_ways 34 = .ok (.iload_n 2, 1) := by decide +kernel
theorem d_M_ways_35 : decode b_M_ways 35 = .ok (.lconst 0, 1) := by decide +kernel
theorem d_M_ways_36 : decode b_M_ways 36 = .ok (.lastore, 1) := by decide +kernel
theorem d_M_ways_37 : decode b_M_ways 37 = .ok (.iinc 2 1, 3) := by decide +kernel
theorem d_M_ways_40 : decode b_M_ways 40 = .ok (.goto (-15), 3) := by decide +kernel
theorem d_M_ways_43 : decode b_M_ways 43 = .ok (.aload_n 0, 1) := by decide +kernel
theorem d_M_ways_44 : decode b_M_ways 44 = .ok (.getfield 53, 3) := by decide +kernel
theorem d_M_ways_47 : decode b_M_ways 47 = .ok (.iconst 0, 1) := by decide +kernel
theorem d_M_ways_48 : decode b_M_ways 48 = .ok (.lconst 1, 1) := by decide +kernel
theorem d_M_ways_49 : decode b_M_ways 49 = .ok (.lastore, 1) := by decide +kernel
theorem d_M_ways_50 : decode b_M_ways 50 = .ok (.iconst 0, 1) := by decide +kernel
theorem d_M_ways_51 : decode b_M_ways 51 = .ok (.istore_n 2, 1) := by decide +kernel
theorem d_M_ways_52 : decode b_M_ways 52 = .ok (.iload_n 2, 1) := by decide +kernel
theorem d_M_ways_53 : decode b_M_ways 53 = .ok (.aload_n 0, 1) := by decide +kernel
theorem d_M_ways_54 : decode b_M_ways 54 = .ok (.getfield 178, 3) := by decide +kernel
theorem d_M_ways_57 : decode b_M_ways 57 = .ok (.if_icmp .ge 49, 3) := by decide +kernel
theorem d_M_ways_60 : decode b_M_ways 60 = .ok (.aload_n 0, 1) := by decide +kernel
theorem d_M_ways_61 : decode b_M_ways 61 = .ok (.getfield 35, 3) := by decide +kernel
theorem d_M_ways_64 : decode b_M_ways 64 = .ok (.iload_n 2, 1) := by decide +kernel
theorem d_M_ways_65 : decode b_M_ways 65 = .ok (.iaload, 1) := by decide +kernel
theorem d_M_ways_66 : decode b_M_ways 66 = .ok (.istore_n 3, 1) := by decide +kernel
theorem d_M_ways_67 : decode b_M_ways 67 = .ok (.iload_n 3, 1) := by decide +kernel
theorem d_M_ways_68 : decode b_M_ways 68 = .ok (.iload_n 1, 1) := by decide +kernel
theorem d_M_ways_69 : decode b_M_ways 69 = .ok (.if_icmp .gt 31, 3) := by decide +kernel
theorem d_M_ways_72 : decode b_M_ways 72 = .ok (.aload_n 0, 1) := by decide +kernel
theorem d_M_ways_73 : decode b_M_ways 73 = .ok (.getfield 53, 3) := by decide +kernel
theorem d_M_ways_76 : decode b_M_ways 76 = .ok (.iload_n 3, 1) := by decide +kernel
theorem d_M_ways_77 : decode b_M_ways 77 = .ok (.dup2, 1) := by decide +kernel
theorem d_M_ways_78 : decode b_M_ways 78 = .ok (.laload, 1) := by decide +kernel
theorem d_M_ways_79 : decode b_M_ways 79 = .ok (.aload_n 0, 1) := by decide +kernel
theorem d_M_ways_80 : decode b_M_ways 80 = .ok (.getfield 53, 3) := by decide +kernel
theorem d_M_ways_83 : decode b_M_ways 83 = .ok (.iload_n 3, 1) := by decide +kernel
theorem d_M_ways_84 : decode b_M_ways 84 = .ok (.aload_n 0, 1) := by decide +kernel
theorem d_M_ways_85 : decode b_M_ways 85 = .ok (.getfield 35, 3) := by decide +kernel
theorem d_M_ways_88 : decode b_M_ways 88 = .ok (.iload_n 2, 1) := by decide +kernel
theorem d_M_ways_89 : decode b_M_ways 89 = .ok (.iaload, 1) := by decide +kernel
theorem d_M_ways_90 : decode b_M_ways 90 = .ok (.isub, 1) := by decide +kernel
theorem d_M_ways_91 : decode b_M_ways 91 = .ok (.laload, 1) := by decide +kernel
theorem d_M_ways_92 : decode b_M_ways 92 = .ok (.ladd, 1) := by decide +kernel
theorem d_M_ways_93 : decode b_M_ways 93 = .ok (.lastore, 1) := by decide +kernel
theorem d_M_ways_94 : decode b_M_ways 94 = .ok (.iinc 3 1, 3) := by decide +kernel
theorem d_M_ways_97 : decode b_M_ways 97 = .ok (.goto (-30), 3) := by decide +kernel
theorem d_M_ways_100 : decode b_M_ways 100 = .ok (.iinc 2 1, 3) := by decide +kernel
theorem d_M_ways_103 : decode b_M_ways 103 = .ok (.goto (-51), 3) := by decide +kernel
theorem d_M_ways_106 : decode b_M_ways 106 = .ok (.aload_n 0, 1) := by decide +kernel
theorem d_M_ways_107 : decode b_M_ways 107 = .ok (.aload_n 0, 1) := by decide +kernel
theorem d_M_ways_108 : decode b_M_ways 108 = .ok (.getfield 53, 3) := by decide +kernel
theorem d_M_ways_111 : decode b_M_ways 111 = .ok (.iload_n 1, 1) := by decide +kernel
theorem d_M_ways_112 : decode b_M_ways 112 = .ok (.laload, 1) := by decide +kernel
theorem d_M_ways_113 : decode b_M_ways 113 = .ok (.iconst 1, 1) := by decide +kernel
theorem d_M_ways_114 : decode b_M_ways 114 = .ok (.invokevirtual 202, 3) := by decide +kernel
theorem d_M_ways_117 : decode b_M_ways 117 = .ok (.ireturn, 1) := by decide +kernel
theorem d_M_whole_0 : decode b_M_whole 0 = .ok (.aload_n 0, 1) := by decide +kernel
theorem d_M_whole_1 : decode b_M_whole 1 = .ok (.lload_n 1, 1) := by decide +kernel
theorem d_M_whole_2 : decode b_M_whole 2 = .ok (.putfield 103, 3) := by decide +kernel
theorem d_M_whole_5 : decode b_M_whole 5 = .ok (.aload_n 0, 1) := by decide +kernel
theorem d_M_whole_6 : decode b_M_whole 6 = .ok (.lconst 1, 1) := by decide +kernel
theorem d_M_whole_7 : decode b_M_whole 7 = .ok (.putfield 88, 3) := by decide +kernel
theorem d_M_whole_10 : decode b_M_whole 10 = .ok (.iload_n 3, 1) := by decide +kernel
theorem d_M_whole_11 : decode b_M_whole 11 = .ok (.ireturn, 1) := by decide +kernel
theorem d_M_byJust_0 : decode b_M_byJust 0 = .ok (.iload_n 1, 1) := by decide +kernel
theorem d_M_byJust_1 : decode b_M_byJust 1 = .ok (.iconst 1, 1) := by decide +kernel
theorem d_M_byJust_2 : decode b_M_byJust 2 = .ok (.sipush 400, 3) := by decide +kernel
theorem d_M_byJust_5 : decode b_M_byJust 5 = .ok (.invokestatic 96, 3) := by decide +kernel
theorem d_M_byJust_8 : decode b_M_byJust 8 = .ok (.ifCond .eq 13, 3) := by decide +kernel
theorem d_M_byJust_11 : decode b_M_byJust 11 = .ok (.iload_n 2, 1) := by decide +kernel
theorem d_M_byJust_12 : decode b_M_byJust 12 = .ok (.iconst 1, 1) := by decide +kernel
theorem d_M_byJust_13 : decode b_M_byJust 13 = .ok (.bipush 20, 2) := by decide +kernel
theorem d_M_byJust_15 : decode b_M_byJust 15 = .ok (.invokestatic 96, 3) := by decide +kernel
theorem d_M_byJust_18 : decode b_M_byJust 18 = .ok (.ifCond .ne 5, 3) := by decide +kernel
theorem d_M_byJust_21 : decode b_M_byJust 21 = .ok (.iconst (-1), 1) := by decide +kernel
theorem d_M_byJust_22 : decode b_M_byJust 22 = .ok (.ireturn, 1) := by decide +kernel
theorem d_M_byJust_23 : decode b_M_byJust 23 = .ok (.aload_n 0, 1) := by decide +kernel
theorem d_M_byJust_24 : decode b_M_byJust 24 = .ok (.getfield 172, 3) := by decide +kernel
theorem d_M_byJust_27 : decode b_M_byJust 27 = .ok (.ifCond .eq 6, 3) := by decide +kernel
theorem d_M_byJust_30 : decode b_M_byJust 30 = .ok (.bipush (-4), 2) := by decide +kernel
theorem d_M_byJust_32 : decode b_M_byJust 32 = .ok (.ireturn, 1) := by decide +kernel
theorem d_M_byJust_33 : decode b_M_byJust 33 = .ok (.iconst 0, 1) := by decide +kernel
theorem d_M_byJust_34 : decode b_M_byJust 34 = .ok (.istore_n 3, 1) := by decide +kernel
theorem d_M_byJust_35 : decode b_M_byJust 35 = .ok (.iload_n 3, 1) := by decide +kernel
theorem d_M_byJust_36 : decode b_M_byJust 36 = .ok (.sipush 8421, 3) := by decide +kernel
theorem d_M_byJust_39 : decode b_M_byJust 39 = .ok (.if_icmp .ge 24, 3) := by decide +kernel
theorem d_M_byJust_42 : decode b_M_byJust 42 = .ok (.aload_n 0, 1) := by decide +kernel
theorem d_M_byJust_43 : decode b_M_byJust 43 = .ok (.getfield 57, 3) := by decide +kernel
theorem d_M_byJust_46 : decode b_M_byJust 46 = .ok (.iload_n 3, 1) := by decide +kernel
theorem d_M_byJust_47 : decode b_M_byJust 47 = .ok (.iload_n 3, 1) := by decide +kernel
theorem d_M_byJust_48 : decode b_M_byJust 48 = .ok (.ifCond .ne 7, 3) := by decide +kernel
theorem d_M_byJust_51 : decode b_M_byJust 51 = .ok (.lconst 1, 1) := by decide +kernel
theorem d_M_byJust_52 : decode b_M_byJust 52 = .ok (.goto 4, 3) := by decide +kernel
theorem d_M_byJust_55 : decode b_M_byJust 55 = .ok (.lconst 0, 1) := by decide +kernel
theorem d_M_byJust_56 : decode b_M_byJust 56 = .ok (.lastore, 1) := by decide +kernel
theorem d_M_byJust_57 : decode b_M_byJust 57 = .ok (.iinc 3 1, 3) := by decide +kernel
theorem d_M_byJust_60 : decode b_M_byJust 60 = .ok (.goto (-25), 3) := by decide +kernel
theorem d_M_byJust_63 : decode b_M_byJust 63 = .ok (.iconst 0, 1) := by decide +kernel
theorem d_M_byJust_64 : decode b_M_byJust 64 = .ok (.istore_n 3, 1) := by decide +kernel
theorem d_M_byJust_65 : decode b_M_byJust 65 = .ok (.iload_n 3, 1) := by decide +kernel
theorem d_M_byJust_66 : decode b_M_byJust 66 = .ok (.aload_n 0, 1) := by decide +kernel
theorem d_M_byJust_67 : decode b_M_byJust 67 = .ok (.getfield 178, 3) := by decide +kernel
theorem d_M_byJust_70 : decode b_M_byJust 70 = .ok (.if_icmp .ge 84, 3) := by decide +kernel
theorem d_M_byJust_73 : decode b_M_byJust 73 = .ok (.aload_n 0, 1) := by decide +kernel
theorem d_M_byJust_74 : decode b_M_byJust 74 = .ok (.getfield 35, 3) := by decide +kernel
theorem d_M_byJust_77 : decode b_M_byJust 77 = .ok (.iload_n 3, 1) := by decide +kernel
theorem d_M_byJust_78 : decode b_M_byJust 78 = .ok (.iaload, 1) := by decide +kernel
theorem d_M_byJust_79 : decode b_M_byJust 79 = .ok (.istore 4, 2) := by decide +kernel
theorem d_M_byJust_81 : decode b_M_byJust 81 = .ok (.iconst 1, 1) := by decide +kernel
theorem d_M_byJust_82 : decode b_M_byJust 82 = .ok (.istore 5, 2) := by decide +kernel
theorem d_M_byJust_84 : decode b_M_byJust 84 = .ok (.iload 5, 2) := by decide +kernel
theorem d_M_byJust_86 : decode b_M_byJust 86 = .ok (.iload_n 2, 1) := by decide +kernel
theorem d_M_byJust_87 : decode b_M_byJust 87 = .ok (.if_icmp .gt 61, 3) := by decide +kernel
theorem d_M_byJust_90 : decode b_M_byJust 90 = .ok (.iload 4, 2) := by decide +kernel
theorem d_M_byJust_92 : decode b_M_byJust 92 = .ok (.istore 6, 2) := by decide +kernel
theorem d_M_byJust_94 : decode b_M_byJust 94 = .ok (.iload 6, 2) := by decide +kernel
theorem d_M_byJust_96 : decode b_M_byJust 96 = .ok (.iload_n 1, 1) := by decide +kernel
theorem d_M_byJust_97 : decode b_M_byJust 97 = .ok (.if_icmp .gt 45, 3) := by decide +kernel
theorem d_M_byJust_100 : decode b_M_byJust 100 = .ok (.aload_n 0, 1) := by decide +kernel
theorem d_M_byJust_101 : decode b_M_byJust 101 = .ok (.getfield 57, 3) := by decide +kernel
theorem d_M_byJust_104 : decode b_M_byJust 104 = .ok (.sipush 401, 3) := by decide +kernel
theorem d_M_byJust_107 : decode b_M_byJust 107 = .ok (.iload 5, 2) := by decide +kernel
theorem d_M_byJust_109 : decode b_M_byJust 109 = .ok (.imul, 1) := by decide +kernel
theorem d_M_byJust_110 : decode b_M_byJust 110 = .ok (.iload 6, 2) := by decide +kernel
theorem d_M_byJust_112 : decode b_M_byJust 112 = .ok (.iadd, 1) := by decide +kernel
theorem d_M_byJust_113 : decode b_M_byJust 113 = .ok (.dup2, 1) := by decide +kernel
theorem d_M_byJust_114 : decode b_M_byJust 114 = .ok (.laload, 1) := by decide +kernel
theorem d_M_byJust_115 : decode b_M_byJust 115 = .ok (.aload_n 0, 1) := by decide +kernel
theorem d_M_byJust_116 : decode b_M_byJust 116 = .ok (.getfield 57, 3) := by decide +kernel
theorem d_M_byJust_119 : decode b_M_byJust 119 = .ok (.sipush 401, 3) := by decide +kernel
theorem d_M_byJust_122 : decode b_M_byJust 122 = .ok (.iload 5, 2) := by decide +kernel
theorem d_M_byJust_124 : decode b_M_byJust 124 = .ok (.iconst 1, 1) := by decide +kernel
theorem d_M_byJust_125 : decode b_M_byJust 125 = .ok (.isub, 1) := by decide +kernel
theorem d_M_byJust_126 : decode b_M_byJust 126 = .ok (.imul, 1) := by decide +kernel
theorem d_M_byJust_127 : decode b_M_byJust 127 = .ok (.iload 6, 2) := by decide +kernel
theorem d_M_byJust_129 : decode b_M_byJust 129 = .ok (.iadd, 1) := by decide +kernel
theorem d_M_byJust_130 : decode b_M_byJust 130 = .ok (.iload 4, 2) := by decide +kernel
theorem d_M_byJust_132 : decode b_M_byJust 132 = .ok (.isub, 1) := by decide +kernel
theorem d_M_byJust_133 : decode b_M_byJust 133 = .ok (.laload, 1) := by decide +kernel
theorem d_M_byJust_134 : decode b_M_byJust 134 = .ok (.ladd, 1) := by decide +kernel
theorem d_M_byJust_135 : decode b_M_byJust 135 = .ok (.lastore, 1) := by decide +kernel
theorem d_M_byJust_136 : decode b_M_byJust 136 = .ok (.iinc 6 1, 3) := by decide +kernel
theorem d_M_byJust_139 : decode b_M_byJust 139 = .ok (.goto (-45), 3) := by decide +kernel
theorem d_M_byJust_142 : decode b_M_byJust 142 = .ok (.iinc 5 1, 3) := by decide +kernel
theorem d_M_byJust_145 : decode b_M_byJust 145 = .ok (.goto (-61), 3) := by decide +kernel
theorem d_M_byJust_148 : decode b_M_byJust 148 = .ok (.iinc 3 1, 3) := by decide +kernel
theorem d_M_byJust_151 : decode b_M_byJust 151 = .ok (.goto (-86), 3) := by decide +kernel
theorem d_M_byJust_154 : decode b_M_byJust 154 = .ok (.aload_n 0, 1) := by decide +kernel
theorem d_M_byJust_155 : decode b_M_byJust 155 = .ok (.aload_n 0, 1) := by decide +kernel
theorem d_M_byJust_156 : decode b_M_byJust 156 = .ok (.getfield 57, 3) := by decide +kernel
theorem d_M_byJust_159 : decode b_M_byJust 159 = .ok (.sipush 401, 3) := by decide +kernel
theorem d_M_byJust_162 : decode b_M_byJust 162 = .ok (.iload_n 2, 1) := by decide +kernel
theorem d_M_byJust_163 : decode b_M_byJust 163 = .ok (.imul, 1) := by decide +kernel
theorem d_M_byJust_164 : decode b_M_byJust 164 = .ok (.iload_n 1, 1) := by decide +kernel
theorem d_M_byJust_165 : decode b_M_byJust 165 = .ok (.iadd, 1) := by decide +kernel
theorem d_M_byJust_166 : decode b_M_byJust 166 = .ok (.laload, 1) := by decide +kernel
theorem d_M_byJust_167 : decode b_M_byJust 167 = .ok (.iconst 1, 1) := by decide +kernel
theorem d_M_byJust_168 : decode b_M_byJust 168 = .ok (.invokevirtual 202, 3) := by decide +kernel
theorem d_M_byJust_171 : decode b_M_byJust 171 = .ok (.ireturn, 1) := by decide +kernel
theorem d_M_gaps_0 : decode b_M_gaps 0 = .ok (.iload_n 1, 1) := by decide +kernel
theorem d_M_gaps_1 : decode b_M_gaps 1 = .ok (.invokestatic 110, 3) := by decide +kernel
theorem d_M_gaps_4 : decode b_M_gaps 4 = .ok (.ifCond .ne 5, 3) := by decide +kernel
theorem d_M_gaps_7 : decode b_M_gaps 7 = .ok (.iconst (-1), 1) := by decide +kernel
theorem d_M_gaps_8 : decode b_M_gaps 8 = .ok (.ireturn, 1) := by decide +kernel
theorem d_M_gaps_9 : decode b_M_gaps 9 = .ok (.aload_n 0, 1) := by decide +kernel
theorem d_M_gaps_10 : decode b_M_gaps 10 = .ok (.invokevirtual 213, 3) := by decide +kernel
theorem d_M_gaps_13 : decode b_M_gaps 13 = .ok (.ifCond .eq 9, 3) := by decide +kernel
theorem d_M_gaps_16 : decode b_M_gaps 16 = .ok (.aload_n 0, 1) := by decide +kernel
theorem d_M_gaps_17 : decode b_M_gaps 17 = .ok (.iconst 4, 1) := by decide +kernel
theorem d_M_gaps_18 : decode b_M_gaps 18 = .ok (.invokevirtual 114, 3) := by decide +kernel
theorem d_M_gaps_21 : decode b_M_gaps 21 = .ok (.ireturn, 1) := by decide +kernel
theorem d_M_gaps_22 : decode b_M_gaps 22 = .ok (.aload_n 0, 1) := by decide +kernel
theorem d_M_gaps_23 : decode b_M_gaps 23 = .ok (.invokevirtual 216, 3) := by decide +kernel
theorem d_M_gaps_26 : decode b_M_gaps 26 = .ok (.istore_n 2, 1) := by decide +kernel
theorem d_M_gaps_27 : decode b_M_gaps 27 = .ok (.iconst 0, 1) := by decide +kernel
theorem d_M_gaps_28 : decode b_M_gaps 28 = .ok (.istore_n 3, 1) := by decide +kernel
theorem d_M_gaps_29 : decode b_M_gaps 29 = .ok (.iconst 0, 1) := by decide +kernel
theorem d_M_gaps_30 : decode b_M_gaps 30 = .ok (.istore 4, 2) := by decide +kernel
theorem d_M_gaps_32 : decode b_M_gaps 32 = .ok (.iload 4, 2) := by decide +kernel
theorem d_M_gaps_34 : decode b_M_gaps 34 = .ok (.bipush 60, 2) := by decide +kernel
theorem d_M_gaps_36 : decode b_M_gaps 36 = .ok (.if_icmp .ge 22, 3) := by decide +kernel
theorem d_M_gaps_39 : decode b_M_gaps 39 = .ok (.aload_n 0, 1) := by decide +kernel
theorem d_M_gaps_40 : decode b_M_gaps 40 = .ok (.getfield 16, 3) := by decide +kernel
theorem d_M_gaps_43 : decode b_M_gaps 43 = .ok (.bipush 60, 2) := by decide +kernel
theorem d_M_gaps_45 : decode b_M_gaps 45 = .ok (.iload_n 1, 1) := by decide +kernel
theorem d_M_gaps_46 : decode b_M_gaps 46 = .ok (.imul, 1) := by decide +kernel
theorem d_M_gaps_47 : decode b_M_gaps 47 = .ok (.iload 4, 2) := by decide +kernel
theorem d_M_gaps_49 : decode b_M_gaps 49 = .ok (.iadd, 1) := by decide +kernel
theorem d_M_gaps_50 : decode b_M_gaps 50 = .ok (.iconst 0, 1) := by decide +kernel
theorem d_M_gaps_51 : decode b_M_gaps 51 = .ok (.iastore, 1) := by decide +kernel
theorem d_M_gaps_52 : decode b_M_gaps 52 = .ok (.iinc 4 1, 3) := by decide +kernel
theorem d_M_gaps_55 : decode b_M_gaps 55 = .ok (.goto (-23), 3) := by decide +kernel
theorem d_M_gaps_58 : decode b_M_gaps 58 = .ok (.iconst 1, 1) := by decide +kernel
theorem d_M_gaps_59 : decode b_M_gaps 59 = .ok (.istore 4, 2) := by decide +kernel
theorem d_M_gaps_61 : decode b_M_gaps 61 = .ok (.iload 4, 2) := by decide +kernel
theorem d_M_gaps_63 : decode b_M_gaps 63 = .ok (.iload_n 2, 1) := by decide +kernel
theorem d_M_gaps_64 : decode b_M_gaps 64 = .ok (.if_icmp .gt 40, 3) := by decide +kernel
theorem d_M_gaps_67 : decode b_M_gaps 67 = .ok (.iload_n 3, 1) := by decide +kernel
theorem d_M_gaps_68 : decode b_M_gaps 68 = .ok (.bipush 60, 2) := by decide +kernel
theorem d_M_gaps_70 : decode b_M_gaps 70 = .ok (.if_icmp .ge 34, 3) := by decide +kernel
theorem d_M_gaps_73 : decode b_M_gaps 73 = .ok (.aload_n 0, 1) := by decide +kernel
theorem d_M_gaps_74 : decode b_M_gaps 74 = .ok (.iload 4, 2) := by decide +kernel
theorem d_M_gaps_76 : decode b_M_gaps 76 = .ok (.invokevirtual 135, 3) := by decide +kernel
theorem d_M_gaps_79 : decode b_M_gaps 79 = .ok (.ifCond .ne 19, 3) := by decide +kernel
theorem d_M_gaps_82 : decode b_M_gaps 82 = .ok (.aload_n 0, 1) := by decide +kernel
theorem d_M_gaps_83 : decode b_M_gaps 83 = .ok (.getfield 16, 3) := by decide +kernel
theorem d_M_gaps_86 : decode b_M_gaps 86 = .ok (.bipush 60, 2) := by decide +kernel
theorem d_M_gaps_88 : decode b_M_gaps 88 = .ok (.iload_n 1, 1) := by decide +kernel
theorem d_M_gaps_89 : decode b_M_gaps 89 = .ok (.imul, 1) := by decide +kernel
theorem d_M_gaps_90 : decode b_M_gaps 90 = .ok (.iload_n 3, 1) := by decide +kernel
theorem d_M_gaps_91 : decode b_M_gaps 91 = .ok (.iadd, 1) := by decide +kernel
theorem d_M_gaps_92 : decode b_M_gaps 92 = .ok (.iload 4, 2) := by decide +kernel
theorem d_M_gaps_94 : decode b_M_gaps 94 = .ok (.iastore, 1) := by decide +kernel
theorem d_M_gaps_95 : decode b_M_gaps 95 = .ok (.iinc 3 1, 3) := by decide +kernel
theorem d_M_gaps_98 : decode b_M_gaps 98 = .ok (.iinc 4 1, 3) := by decide +kernel
theorem d_M_gaps_101 : decode b_M_gaps 101 = .ok (.goto (-40), 3) := by decide +kernel
theorem d_M_gaps_104 : decode b_M_gaps 104 = .ok (.aload_n 0, 1) := by decide +kernel
theorem d_M_gaps_105 : decode b_M_gaps 105 = .ok (.getfield 13, 3) := by decide +kernel
theorem d_M_gaps_108 : decode b_M_gaps 108 = .ok (.iload_n 1, 1) := by decide +kernel
theorem d_M_gaps_109 : decode b_M_gaps 109 = .ok (.iload_n 3, 1) := by decide +kernel
theorem d_M_gaps_110 : decode b_M_gaps 110 = .ok (.iastore, 1) := by decide +kernel
theorem d_M_gaps_111 : decode b_M_gaps 111 = .ok (.aload_n 0, 1) := by decide +kernel
theorem d_M_gaps_112 : decode b_M_gaps 112 = .ok (.getfield 210, 3) := by decide +kernel
theorem d_M_gaps_115 : decode b_M_gaps 115 = .ok (.ireturn, 1) := by decide +kernel
theorem d_M_isEndless_0 : decode b_M_isEndless 0 = .ok (.aload_n 0, 1) := by decide +kernel
theorem d_M_isEndless_1 : decode b_M_isEndless 1 = .ok (.getfield 172, 3) := by decide +kernel
theorem d_M_isEndless_4 : decode b_M_isEndless 4 = .ok (.iconst 2, 1) := by decide +kernel
theorem d_M_isEndless_5 : decode b_M_isEndless 5 = .ok (.if_icmp .eq 19, 3) := by decide +kernel
theorem d_M_isEndless_8 : decode b_M_isEndless 8 = .ok (.aload_n 0, 1) := by decide +kernel
theorem d_M_isEndless_9 : decode b_M_isEndless 9 = .ok (.aload_n 0, 1) := by decide +kernel
theorem d_M_isEndless_10 : decode b_M_isEndless 10 = .ok (.getfield 35, 3) := by decide +kernel
theorem d_M_isEndless_13 : decode b_M_isEndless 13 = .ok (.aload_n 0, 1) := by decide +kernel
theorem d_M_isEndless_14 : decode b_M_isEndless 14 = .ok (.getfield 178, 3) := by decide +kernel
theorem d_M_isEndless_17 : decode b_M_isEndless 17 = .ok (.invokevirtual 206, 3) := by decide +kernel
theorem d_M_isEndless_20 : decode b_M_isEndless 20 = .ok (.iconst 1, 1) := by decide +kernel
theorem d_M_isEndless_21 : decode b_M_isEndless 21 = .ok (.if_icmp .eq 7, 3) := by decide +kernel
theorem d_M_isEndless_24 : decode b_M_isEndless 24 = .ok (.iconst 1, 1) := by decide +kernel
theorem d_M_isEndless_25 : decode b_M_isEndless 25 = .ok (.goto 4, 3) := by decide +kernel
theorem d_M_isEndless_28 : decode b_M_isEndless 28 = .ok (.iconst 0, 1) := by decide +kernel
theorem d_M_isEndless_29 : decode b_M_isEndless 29 = .ok (.ireturn, 1) := by decide +kernel
theorem d_M_commonOf_0 : decode b_M_commonOf 0 = .ok (.iconst 0, 1) := by decide +kernel
theorem d_M_commonOf_1 : decode b_M_commonOf 1 = .ok (.istore_n 3, 1) := by decide +kernel
theorem d_M_commonOf_2 : decode b_M_commonOf 2 = .ok (.iconst 0, 1) := by decide +kernel
theorem d_M_commonOf_3 : decode b_M_commonOf 3 = .ok (.istore 4, 2) := by decide +kernel
theorem d_M_commonOf_5 : decode b_M_commonOf 5 = .ok (.iload 4, 2) := by decide +kernel
theorem d_M_commonOf_7 : decode b_M_commonOf 7 = .ok (.iload_n 2, 1) := by decide +kernel
theorem d_M_commonOf_8 : decode b_M_commonOf 8 = .ok (.if_icmp .ge 18, 3) := by decide +kernel
theorem d_M_commonOf_11 : decode b_M_commonOf 11 = .ok (.iload_n 3, 1) := by decide +kernel
theorem d_M_commonOf_12 : decode b_M_commonOf 12 = .ok (.aload_n 1, 1) := by decide +kernel
theorem d_M_commonOf_13 : decode b_M_commonOf 13 = .ok (.iload 4, 2) := by decide +kernel
theorem d_M_commonOf_15 : decode b_M_commonOf 15 = .ok (.iaload, 1) := by decide +kernel
theorem d_M_commonOf_16 : decode b_M_commonOf 16 = .ok (.invokestatic 106, 3) := by decide +kernel
theorem d_M_commonOf_19 : decode b_M_commonOf 19 = .ok (.istore_n 3, 1) := by decide +kernel
theorem d_M_commonOf_20 : decode b_M_commonOf 20 = .ok (.iinc 4 1, 3) := by decide +kernel
theorem d_M_commonOf_23 : decode b_M_commonOf 23 = .ok (.goto (-18), 3) := by decide +kernel
theorem d_M_commonOf_26 : decode b_M_commonOf 26 = .ok (.iload_n 3, 1) := by decide +kernel
theorem d_M_commonOf_27 : decode b_M_commonOf 27 = .ok (.ireturn, 1) := by decide +kernel
theorem d_M_layGaps_0 : decode b_M_layGaps 0 = .ok (.aload_n 0, 1) := by decide +kernel
theorem d_M_layGaps_1 : decode b_M_layGaps 1 = .ok (.aload_n 0, 1) := by decide +kernel
theorem d_M_layGaps_2 : decode b_M_layGaps 2 = .ok (.getfield 35, 3) := by decide +kernel
theorem d_M_layGaps_5 : decode b_M_layGaps 5 = .ok (.aload_n 0, 1) := by decide +kernel
theorem d_M_layGaps_6 : decode b_M_layGaps 6 = .ok (.getfield 178, 3) := by decide +kernel
theorem d_M_layGaps_9 : decode b_M_layGaps 9 = .ok (.aload_n 0, 1) := by decide +kernel
theorem d_M_layGaps_10 : decode b_M_layGaps 10 = .ok (.getfield 172, 3) := by decide +kernel
theorem d_M_layGaps_13 : decode b_M_layGaps 13 = .ok (.sipush 4000, 3) := by decide +kernel
theorem d_M_layGaps_16 : decode b_M_layGaps 16 = .ok (.invokevirtual 131, 3) := by decide +kernel
theorem d_M_layGaps_19 : decode b_M_layGaps 19 = .ok (.aload_n 0, 1) := by decide +kernel
theorem d_M_layGaps_20 : decode b_M_layGaps 20 = .ok (.iconst 0, 1) := by decide +kernel
theorem d_M_layGaps_21 : decode b_M_layGaps 21 = .ok (.putfield 210, 3) := by decide +kernel
theorem d_M_layGaps_24 : decode b_M_layGaps 24 = .ok (.iconst 0, 1) := by decide +kernel
theorem d_M_layGaps_25 : decode b_M_layGaps 25 = .ok (.istore_n 1, 1) := by decide +kernel
theorem d_M_layGaps_26 : decode b_M_layGaps 26 = .ok (.iconst 1, 1) := by decide +kernel
theorem d_M_layGaps_27 : decode b_M_layGaps 27 = .ok (.istore_n 2, 1) := by decide +kernel
theorem d_M_layGaps_28 : decode b_M_layGaps 28 = .ok (.iload_n 2, 1) := by decide +kernel
theorem d_M_layGaps_29 : decode b_M_layGaps 29 = .ok (.sipush 4000, 3) := by decide +kernel
theorem d_M_layGaps_32 : decode b_M_layGaps 32 = .ok (.if_icmp .gt 29, 3) := by decide +kernel
theorem d_M_layGaps_35 : decode b_M_layGaps 35 = .ok (.aload_n 0, 1) := by decide +kernel
theorem d_M_layGaps_36 : decode b_M_layGaps 36 = .ok (.iload_n 2, 1) := by decide +kernel
theorem d_M_layGaps_37 : decode b_M_layGaps 37 = .ok (.invokevirtual 135, 3) := by decide +kernel
theorem d_M_layGaps_40 : decode b_M_layGaps 40 = .ok (.ifCond .ne 15, 3) := by decide +kernel
theorem d_M_layGaps_43 : decode b_M_layGaps 43 = .ok (.aload_n 0, 1) := by decide +kernel
theorem d_M_layGaps_44 : decode b_M_layGaps 44 = .ok (.dup, 1) := by decide +kernel
theorem d_M_layGaps_45 : decode b_M_layGaps 45 = .ok (.getfield 210, 3) := by decide +kernel
theorem d_M_layGaps_48 : decode b_M_layGaps 48 = .ok (.iconst 1, 1) := by decide +kernel
theorem d_M_layGaps_49 : decode b_M_layGaps 49 = .ok (.iadd, 1) := by decide +kernel
theorem d_M_layGaps_50 : decode b_M_layGaps 50 = .ok (.putfield 210, 3) := by decide +kernel
theorem d_M_layGaps_53 : decode b_M_layGaps 53 = .ok (.iload_n 2, 1) := by decide +kernel
theorem d_M_layGaps_54 : decode b_M_layGaps 54 = .ok (.istore_n 1, 1) := by decide +kernel
theorem d_M_layGaps_55 : decode b_M_layGaps 55 = .ok (.iinc 2 1, 3) := by decide +kernel
theorem d_M_layGaps_58 : decode b_M_layGaps 58 = .ok (.goto (-30), 3) := by decide +kernel
theorem d_M_layGaps_61 : decode b_M_layGaps 61 = .ok (.iload_n 1, 1) := by decide +kernel
theorem d_M_layGaps_62 : decode b_M_layGaps 62 = .ok (.ireturn, 1) := by decide +kernel
theorem d_M_greatest_0 : decode b_M_greatest 0 = .ok (.aload_n 0, 1) := by decide +kernel
theorem d_M_greatest_1 : decode b_M_greatest 1 = .ok (.invokevirtual 213, 3) := by decide +kernel
theorem d_M_greatest_4 : decode b_M_greatest 4 = .ok (.ifCond .eq 9, 3) := by decide +kernel
theorem d_M_greatest_7 : decode b_M_greatest 7 = .ok (.aload_n 0, 1) := by decide +kernel
theorem d_M_greatest_8 : decode b_M_greatest 8 = .ok (.iconst 4, 1) := by decide +kernel
theorem d_M_greatest_9 : decode b_M_greatest 9 = .ok (.invokevirtual 114, 3) := by decide +kernel
theorem d_M_greatest_12 : decode b_M_greatest 12 = .ok (.ireturn, 1) := by decide +kernel
theorem d_M_greatest_13 : decode b_M_greatest 13 = .ok (.aload_n 0, 1) := by decide +kernel
theorem d_M_greatest_14 : decode b_M_greatest 14 = .ok (.invokevirtual 216, 3) := by decide +kernel
theorem d_M_greatest_17 : decode b_M_greatest 17 = .ok (.istore_n 1, 1) := by decide +kernel
theorem d_M_greatest_18 : decode b_M_greatest 18 = .ok (.aload_n 0, 1) := by decide +kernel
theorem d_M_greatest_19 : decode b_M_greatest 19 = .ok (.aload_n 0, 1) := by decide +kernel
theorem d_M_greatest_20 : decode b_M_greatest 20 = .ok (.getfield 210, 3) := by decide +kernel
theorem d_M_greatest_23 : decode b_M_greatest 23 = .ok (.iload_n 1, 1) := by decide +kernel
theorem d_M_greatest_24 : decode b_M_greatest 24 = .ok (.invokevirtual 121, 3) := by decide +kernel
theorem d_M_greatest_27 : decode b_M_greatest 27 = .ok (.ireturn, 1) := by decide +kernel
theorem d_M_rest_0 : decode b_M_rest 0 = .ok (.iload_n 1, 1) := by decide +kernel
theorem d_M_rest_1 : decode b_M_rest 1 = .ok (.iconst 2, 1) := by decide +kernel
theorem d_M_rest_2 : decode b_M_rest 2 = .ok (.bipush 60, 2) := by decide +kernel
theorem d_M_rest_4 : decode b_M_rest 4 = .ok (.invokestatic 96, 3) := by decide +kernel
theorem d_M_rest_7 : decode b_M_rest 7 = .ok (.ifCond .eq 14, 3) := by decide +kernel
theorem d_M_rest_10 : decode b_M_rest 10 = .ok (.iload_n 2, 1) := by decide +kernel
theorem d_M_rest_11 : decode b_M_rest 11 = .ok (.iconst 0, 1) := by decide +kernel
theorem d_M_rest_12 : decode b_M_rest 12 = .ok (.iload_n 1, 1) := by decide +kernel
theorem d_M_rest_13 : decode b_M_rest 13 = .ok (.iconst 1, 1) := by decide +kernel
theorem d_M_rest_14 : decode b_M_rest 14 = .ok (.isub, 1) := by decide +kernel
theorem d_M_rest_15 : decode b_M_rest 15 = .ok (.invokestatic 96, 3) := by decide +kernel
theorem d_M_rest_18 : decode b_M_rest 18 = .ok (.ifCond .ne 5, 3) := by decide +kernel
theorem d_M_rest_21 : decode b_M_rest 21 = .ok (.iconst (-1), 1) := by decide +kernel
theorem d_M_rest_22 : decode b_M_rest 22 = .ok (.ireturn, 1) := by decide +kernel
theorem d_M_rest_23 : decode b_M_rest 23 = .ok (.aload_n 0, 1) := by decide +kernel
theorem d_M_rest_24 : decode b_M_rest 24 = .ok (.getfield 172, 3) := by decide +kernel
theorem d_M_rest_27 : decode b_M_rest 27 = .ok (.ifCond .eq 6, 3) := by decide +kernel
theorem d_M_rest_30 : decode b_M_rest 30 = .ok (.bipush (-4), 2) := by decide +kernel
theorem d_M_rest_32 : decode b_M_rest 32 = .ok (.ireturn, 1) := by decide +kernel
theorem d_M_rest_33 : decode b_M_rest 33 = .ok (.aload_n 0, 1) := by decide +kernel
theorem d_M_rest_34 : decode b_M_rest 34 = .ok (.aload_n 0, 1) := by decide +kernel
theorem d_M_rest_35 : decode b_M_rest 35 = .ok (.getfield 35, 3) := by decide +kernel
theorem d_M_rest_38 : decode b_M_rest 38 = .ok (.aload_n 0, 1) := by decide +kernel
theorem d_M_rest_39 : decode b_M_rest 39 = .ok (.getfield 178, 3) := by decide +kernel
theorem d_M_rest_42 : decode b_M_rest 42 = .ok (.iconst 0, 1) := by decide +kernel
theorem d_M_rest_43 : decode b_M_rest 43 = .ok (.sipush 4000, 3) := by decide +kernel
theorem d_M_rest_46 : decode b_M_rest 46 = .ok (.invokevirtual 131, 3) := by decide +kernel
theorem d_M_rest_49 : decode b_M_rest 49 = .ok (.iconst 1, 1) := by decide +kernel
theorem d_M_rest_50 : decode b_M_rest 50 = .ok (.istore_n 3, 1) := by decide +kernel
theorem d_M_rest_51 : decode b_M_rest 51 = .ok (.iload_n 3, 1) := by decide +kernel
theorem d_M_rest_52 : decode b_M_rest 52 = .ok (.sipush 4000, 3) := by decide +kernel
theorem d_M_rest_55 : decode b_M_rest 55 = .ok (.if_icmp .gt 26, 3) := by decide +kernel
theorem d_M_rest_58 : decode b_M_rest 58 = .ok (.iload_n 3, 1) := by decide +kernel
theorem d_M_rest_59 : decode b_M_rest 59 = .ok (.iload_n 1, 1) := by decide +kernel
theorem d_M_rest_60 : decode b_M_rest 60 = .ok (.irem, 1) := by decide +kernel
theorem d_M_rest_61 : decode b_M_rest 61 = .ok (.iload_n 2, 1) := by decide +kernel
theorem d_M_rest_62 : decode b_M_rest 62 = .ok (.if_icmp .ne 13, 3) := by decide +kernel
theorem d_M_rest_65 : decode b_M_rest 65 = .ok (.aload_n 0, 1) := by decide +kernel
theorem d_M_rest_66 : decode b_M_rest 66 = .ok (.iload_n 3, 1) := by decide +kernel
theorem d_M_rest_67 : decode b_M_rest 67 = .ok (.invokevirtual 135, 3) := by decide +kernel
theorem d_M_rest_70 : decode b_M_rest 70 = .ok (.ifCond .eq 5, 3) := by decide +kernel
theorem d_M_rest_73 : decode b_M_rest 73 = .ok (.iload_n 3, 1) := by decide +kernel
theorem d_M_rest_74 : decode b_M_rest 74 = .ok (.ireturn, 1) := by decide +kernel
theorem d_M_rest_75 : decode b_M_rest 75 = .ok (.iinc 3 1, 3) := by decide +kernel
theorem d_M_rest_78 : decode b_M_rest 78 = .ok (.goto (-27), 3) := by decide +kernel
theorem d_M_rest_81 : decode b_M_rest 81 = .ok (.bipush (-9), 2) := by decide +kernel
theorem d_M_rest_83 : decode b_M_rest 83 = .ok (.ireturn, 1) := by decide +kernel
theorem d_M_needed_0 : decode b_M_needed 0 = .ok (.iconst 0, 1) := by decide +kernel
theorem d_M_needed_1 : decode b_M_needed 1 = .ok (.istore_n 1, 1) := by decide +kernel
theorem d_M_needed_2 : decode b_M_needed 2 = .ok (.iconst 0, 1) := by decide +kernel
theorem d_M_needed_3 : decode b_M_needed 3 = .ok (.istore_n 2, 1) := by decide +kernel
theorem d_M_needed_4 : decode b_M_needed 4 = .ok (.iload_n 2, 1) := by decide +kernel
theorem d_M_needed_5 : decode b_M_needed 5 = .ok (.aload_n 0, 1) := by decide +kernel
theorem d_M_needed_6 : decode b_M_needed 6 = .ok (.getfield 178, 3) := by decide +kernel
theorem d_M_needed_9 : decode b_M_needed 9 = .ok (.if_icmp .ge 97, 3) := by decide +kernel
theorem d_M_needed_12 : decode b_M_needed 12 = .ok (.iconst 0, 1) := by decide +kernel
theorem d_M_needed_13 : decode b_M_needed 13 = .ok (.istore_n 3, 1) := by decide +kernel
theorem d_M_needed_14 : decode b_M_needed 14 = .ok (.iload_n 3, 1) := by decide +kernel
theorem d_M_needed_15 : decode b_M_needed 15 = .ok (.aload_n 0, 1) := by decide +kernel
theorem d_M_needed_16 : decode b_M_needed 16 = .ok (.getfield 178, 3) := by decide +kernel
theorem d_M_needed_19 : decode b_M_needed 19 = .ok (.iconst 1, 1) := by decide +kernel
theorem d_M_needed_20 : decode b_M_needed 20 = .ok (.isub, 1) := by decide +kernel
theorem d_M_needed_21 : decode b_M_needed 21 = .ok (.if_icmp .ge 32, 3) := by decide +kernel
theorem d_M_needed_24 : decode b_M_needed 24 = .ok (.aload_n 0, 1) := by decide +kernel
theorem d_M_needed_25 : decode b_M_needed 25 = .ok (.getfield 60, 3) := by decide +kernel
theorem d_M_needed_28 : decode b_M_needed 28 = .ok (.iload_n 3, 1) := by decide +kernel
theorem d_M_needed_29 : decode b_M_needed 29 = .ok (.aload_n 0, 1) := by decide +kernel
theorem d_M_needed_30 : decode b_M_needed 30 = .ok (.getfield 35, 3) := by decide +kernel
theorem d_M_needed_33 : decode b_M_needed 33 = .ok (.iload_n 3, 1) := by decide +kernel
theorem d_M_needed_34 : decode b_M_needed 34 = .ok (.iload_n 2, 1) := by decide +kernel
theorem d_M_needed_35 : decode b_M_needed 35 = .ok (.if_icmp .ge 7, 3) := by decide +kernel
theorem d_M_needed_38 : decode b_M_needed 38 = .ok (.iload_n 3, 1) := by decide +kernel
theorem d_M_needed_39 : decode b_M_needed 39 = .ok (.goto 6, 3) := by decide +kernel
theorem d_M_needed_42 : decode b_M_needed 42 = .ok (.iload_n 3, 1) := by decide +kernel
theorem d_M_needed_43 : decode b_M_needed 43 = .ok (.iconst 1, 1) := by decide +kernel
theorem d_M_needed_44 : decode b_M_needed 44 = .ok (.iadd, 1) := by decide +kernel
theorem d_M_needed_45 : decode b_M_needed 45 = .ok (.iaload, 1) := by decide +kernel
theorem d_M_needed_46 : decode b_M_needed 46 = .ok (.iastore, 1) := by decide +kernel
theorem d_M_needed_47 : decode b_M_needed 47 = .ok (.iinc 3 1, 3) := by decide +kernel
theorem d_M_needed_50 : decode b_M_needed 50 = .ok (.goto (-36), 3) := by decide +kernel
theorem d_M_needed_53 : decode b_M_needed 53 = .ok (.aload_n 0, 1) := by decide +kernel
theorem d_M_needed_54 : decode b_M_needed 54 = .ok (.aload_n 0, 1) := by decide +kernel
theorem d_M_needed_55 : decode b_M_needed 55 = .ok (.getfield 60, 3) := by decide +kernel
theorem d_M_needed_58 : decode b_M_needed 58 = .ok (.aload_n 0, 1) := by decide +kernel
theorem d_M_needed_59 : decode b_M_needed 59 = .ok (.getfield 178, 3) := by decide +kernel
theorem d_M_needed_62 : decode b_M_needed 62 = .ok (.iconst 1, 1) := by decide +kernel
theorem d_M_needed_63 : decode b_M_needed 63 = .ok (.isub, 1) := by decide +kernel
theorem d_M_needed_64 : decode b_M_needed 64 = .ok (.aload_n 0, 1) := by decide +kernel
theorem d_M_needed_65 : decode b_M_needed 65 = .ok (.getfield 172, 3) := by decide +kernel
theorem d_M_needed_68 : decode b_M_needed 68 = .ok (.aload_n 0, 1) := by decide +kernel
theorem d_M_needed_69 : decode b_M_needed 69 = .ok (.getfield 35, 3) := by decide +kernel
theorem d_M_needed_72 : decode b_M_needed 72 = .ok (.iload_n 2, 1) := by decide +kernel
theorem d_M_needed_73 : decode b_M_needed 73 = .ok (.iaload, 1) := by decide +kernel
theorem d_M_needed_74 : decode b_M_needed 74 = .ok (.invokevirtual 131, 3) := by decide +kernel
theorem d_M_needed_77 : decode b_M_needed 77 = .ok (.iload_n 1, 1) := by decide +kernel
theorem d_M_needed_78 : decode b_M_needed 78 = .ok (.aload_n 0, 1) := by decide +kernel
theorem d_M_needed_79 : decode b_M_needed 79 = .ok (.aload_n 0, 1) := by decide +kernel
theorem d_M_needed_80 : decode b_M_needed 80 = .ok (.getfield 35, 3) := by decide +kernel
theorem d_M_needed_83 : decode b_M_needed 83 = .ok (.iload_n 2, 1) := by decide +kernel
theorem d_M_needed_84 : decode b_M_needed 84 = .ok (.iaload, 1) := by decide +kernel
theorem d_M_needed_85 : decode b_M_needed 85 = .ok (.invokevirtual 135, 3) := by decide +kernel
theorem d_M_needed_88 : decode b_M_needed 88 = .ok (.ifCond .eq 7, 3) := by decide +kernel
theorem d_M_needed_91 : decode b_M_needed 91 = .ok (.iconst 0, 1) := by decide +kernel
theorem d_M_needed_92 : decode b_M_needed 92 = .ok (.goto 6, 3) := by decide +kernel
theorem d_M_needed_95 : decode b_M_needed 95 = .ok (.iconst 1, 1) := by decide +kernel
theorem d_M_needed_96 : decode b_M_needed 96 = .ok (.iload_n 2, 1) := by decide +kernel
theorem d_M_needed_97 : decode b_M_needed 97 = .ok (.ishl, 1) := by decide +kernel
theorem d_M_needed_98 : decode b_M_needed 98 = .ok (.ior, 1) := by decide +kernel
theorem d_M_needed_99 : decode b_M_needed 99 = .ok (.istore_n 1, 1) := by decide +kernel
